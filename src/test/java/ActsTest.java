/** Promises 30 to 39: bodies and their acts, shelves and their rows, and counts. */
public final class ActsTest {
    private static final int BAD = FortyDesks.BAD, FULL = FortyDesks.FULL;
    private static final long NONE = Long.MIN_VALUE;
    private static final Check check = new Check();

    public static void main(String[] args) {
        body();
        acts();
        traces();
        keepAndTaken();
        row();
        putAndElement();
        shift();
        count();
        check.end("ActsTest");
    }

    private static void due(String call, long got, long want) {
        check.due(call, got, want);
    }

    private static FortyDesks eight() {
        FortyDesks x = new FortyDesks();
        for (int kind = 0; kind < 8; kind++) x.body(kind);
        return x;
    }

    private static void body() {
        FortyDesks x = new FortyDesks();
        due("30: kind -1", x.body(-1), BAD);
        due("30: kind 8", x.body(8), BAD);
        for (int n = 0; n < 50; n++) due("30: body " + n, x.body(n % 8), n);
        due("30: FULL", x.body(0), FULL);
        due("30: BAD goes ahead of FULL", x.body(8), BAD);
        due("30: fifty", x.count(5), 50);
        due("30: n is its number", x.act(49, 0, 0), 49 + 3);
    }

    /** By kind: speaks, hears, minds, moves of 5, where a body's number is its kind. */
    private static void acts() {
        int[][] fives = {
            {5, 10, 5, 10 - 1},
            {9, 18, 4, 18 - 0},
            {7, -14, 7, -14 - 3},
            {8, -18, 18, -18 - 6},
            {12, 24, 1, 24 - 5 ^ 5},
            {13, 26, 0 - 10, (26 - (4 - 10) ^ 5) + 1},
            {22, 44, 3, 44 - 7},
            {23, 46 + 5, 2, 51 - 6},
        };
        FortyDesks x = eight();
        for (int kind = 0; kind < 8; kind++) {
            for (int act = 0; act < 4; act++) {
                due("31: act(" + kind + ", " + act + ", 5)", x.act(kind, act, 5), fives[kind][act]);
            }
        }
        int most = Integer.MAX_VALUE;
        due("31: x wraps", x.act(1, 0, most), most + 4);
        due("31: x wraps", x.act(3, 1, most), -(2 * (most + 1 + 3)));
        due("31: no such body", x.act(8, 0, 5), 0);
        due("31: no such body", x.act(-1, 0, 5), 0);
        due("31: no such act", x.act(0, 4, 5), 0);
        due("31: no such act", x.act(0, -1, 5), 0);
        due("31: none at all", new FortyDesks().act(0, 0, 5), 0);
    }

    private static void traces() {
        int[][][] bodies = {
            {{1}, {10, 1}, {11}, {2, 10, 1, 11}},
            {{20, 1}, {10, 20, 1}, {11}, {2, 10, 20, 1, 11}},
            {{1}, {30, 10, 1}, {11}, {2, 30, 10, 1, 11}},
            {{1}, {41, 30, 10, 1}, {40, 11}, {2, 41, 30, 10, 1, 40, 11}},
            {{20, 1}, {10, 20, 1}, {11}, {50, 2, 10, 20, 1, 11}},
            {{20, 1}, {10, 20, 1}, {60, 11, 20, 1}, {61, 50, 2, 10, 20, 1, 60, 11, 20, 1}},
            {{70, 1}, {10, 70, 1}, {11}, {2, 10, 70, 1, 11}},
            {{81, 70, 1}, {80, 10, 81, 70, 1, 11}, {11}, {2, 80, 10, 81, 70, 1, 11, 11}},
        };
        FortyDesks x = eight();
        for (int kind = 0; kind < 8; kind++) {
            for (int act = 0; act < 4; act++) {
                int[] ran = bodies[kind][act];
                x.act(kind, act, 3);
                String of = "32: act(" + kind + ", " + act + ", 3), ";
                due(of + "how many", x.count(6), ran.length);
                for (int i = 0; i < ran.length; i++) due(of + "trace(" + i + ")", x.trace(i), ran[i]);
                due(of + "behind the last", x.trace(ran.length), BAD);
                due(of + "ahead of the first", x.trace(-1), BAD);
            }
        }
        x.act(0, 9, 3);
        due("31: no trace then", x.trace(0), BAD);
        due("31: no trace then", x.count(6), 0);
        x.act(0, 0, 3);
        x.act(50, 0, 3);
        due("31: no trace then", x.trace(0), BAD);
    }

    private static void keepAndTaken() {
        FortyDesks x = eight();
        due("33: no such shelf", x.keep(-1, 0), BAD);
        due("33: no such shelf", x.keep(6, 0), BAD);
        due("33: no such body", x.keep(0, 8), BAD);
        due("33: no such body", x.keep(0, -2), BAD);
        String[] above = {"0", "01", "02", "023", "014", "0145", "06", "067"};
        for (int kind = 0; kind < 8; kind++) {
            due("33: keep(" + kind % 6 + ", " + kind + ")", x.keep(kind % 6, kind), 1);
            for (int k = 0; k < 8; k++) {
                boolean under = above[kind].indexOf('0' + k) >= 0;
                due("38: " + kind + " taken for " + k, x.taken(kind % 6, k), under ? kind : -12);
            }
        }
        due("38: kind -1", x.taken(0, -1), BAD);
        due("38: kind 8", x.taken(0, 8), BAD);
        due("38: no such shelf", x.taken(6, 0), BAD);
        due("38: no such shelf", x.taken(-1, 0), BAD);
        due("33: nothing", x.keep(0, -1), 1);
        due("38: nothing", x.taken(0, 0), -11);
        due("38: BAD goes ahead of -11", x.taken(0, 8), BAD);
        x.row(0, 2, 3);
        due("38: a row", x.taken(0, 0), -12);
        due("33: a body for the row", x.keep(0, 3), 1);
        due("33: no row any more", x.element(0, 0), NONE);
        due("33: no row any more", x.put(0, 0, 1), -12);
        x.row(0, 2, 3);
        due("34: the body is gone", x.taken(0, 3), -12);
    }

    private static void row() {
        FortyDesks x = new FortyDesks();
        int[][] bad = {{-1, 0, 1}, {6, 0, 1}, {0, -1, 1}, {0, 5, 1}, {0, 0, 61}, {0, 0, Integer.MAX_VALUE}, {6, 0, -1}, {0, 5, -1}};
        for (int[] b : bad) due("34: row(" + b[0] + ", " + b[1] + ", " + b[2] + ")", x.row(b[0], b[1], b[2]), BAD);
        due("34: a size below 0", x.row(0, 0, -1), -14);
        due("34: a size below 0", x.row(0, 4, Integer.MIN_VALUE), -14);
        due("34: nothing came of it", x.element(0, 0), NONE);
        due("34: empty", x.row(0, 3, 0), 1);
        due("34: empty", x.element(0, 0), NONE);
        due("34: empty", x.put(0, 0, 1), -13);
        due("34: the longest", x.row(0, 3, 60), 1);
        for (int i = 0; i < 60; i++) {
            due("34: 0 at first", x.element(0, i), 0);
            x.put(0, i, i + 1);
        }
        due("34: shorter", x.row(0, 3, 5), 1);
        due("34: 0 at first", x.element(0, 4), 0);
        due("34: ended", x.element(0, 5), NONE);
        due("34: longer", x.row(0, 1, 60), 1);
        for (int i = 0; i < 60; i++) due("34: 0 at first", x.element(0, i), 0);
        x.put(0, 3, 9);
        due("34: refused", x.row(0, 1, -1), -14);
        due("34: as it was", x.element(0, 3), 9);
    }

    private static void putAndElement() {
        long[] values = {0, 1, -1, 127, 128, 255, 256, 300, -129, 32767, 32768, -32769, 65536, Integer.MAX_VALUE,
            1L << 31, 1L << 32, -(1L << 40) - 7, Long.MAX_VALUE, Long.MIN_VALUE};
        FortyDesks x = new FortyDesks();
        for (int sort = 0; sort < 5; sort++) x.row(sort, sort, 3);
        for (long v : values) {
            long[] kept = {(byte) v, (short) v, (int) v, v, v != 0 ? 1 : 0};
            for (int sort = 0; sort < 5; sort++) {
                due("35: put(" + sort + ", 1, " + v + ")", x.put(sort, 1, v), 1);
                due("36: element of sort " + sort, x.element(sort, 1), kept[sort]);
                due("35: the one ahead", x.element(sort, 0), 0);
                due("35: the one behind", x.element(sort, 2), 0);
            }
        }
        int[][] refused = {{-1, 0, BAD}, {6, 0, BAD}, {5, 0, -11}, {5, 99, -11}, {0, -1, -13}, {0, 3, -13},
            {0, Integer.MAX_VALUE, -13}, {0, Integer.MIN_VALUE, -13}};
        for (int[] r : refused) {
            due("35: put(" + r[0] + ", " + r[1] + ", 1)", x.put(r[0], r[1], 1), r[2]);
            due("36: element(" + r[0] + ", " + r[1] + ")", x.element(r[0], r[1]), NONE);
        }
        x.body(0);
        x.keep(5, 0);
        due("35: -12 goes ahead of -13", x.put(5, 99, 1), -12);
        due("36: a body", x.element(5, 0), NONE);
    }

    private static void rowIs(FortyDesks x, int shelf, long... want) {
        for (int i = 0; i < want.length; i++) due("37: element(" + shelf + ", " + i + ")", x.element(shelf, i), want[i]);
        due("37: its end", x.element(shelf, want.length), NONE);
    }

    private static void shift() {
        FortyDesks x = new FortyDesks();
        x.row(0, 2, 5);
        x.row(1, 2, 3);
        x.row(2, 3, 3);
        for (int i = 0; i < 5; i++) x.put(0, i, i + 1);
        due("37: to another one", x.shift(0, 1, 1, 0, 3), 3);
        rowIs(x, 1, 2, 3, 4);
        due("37: on, as they were", x.shift(0, 0, 0, 1, 4), 4);
        rowIs(x, 0, 1, 1, 2, 3, 4);
        due("37: back, as they were", x.shift(0, 2, 0, 0, 3), 3);
        rowIs(x, 0, 2, 3, 4, 3, 4);
        due("37: 0 of them", x.shift(0, 5, 1, 3, 0), 0);
        due("37: 0 of them from a place that is not there", x.shift(0, 6, 1, 0, 0), -13);
        due("37: 0 of them to a place that is not there", x.shift(0, 0, 1, 4, 0), -13);
        int[][] off = {{-1, 0, 1}, {0, -1, 1}, {3, 0, 3}, {0, 1, 3}, {0, 0, 4}, {0, 0, -1}, {Integer.MAX_VALUE, 0, 1},
            {1, 0, Integer.MAX_VALUE}, {0, Integer.MAX_VALUE, 1}, {5, 0, 1}, {Integer.MIN_VALUE, 0, 1}};
        for (int[] o : off) due("37: shift(0, " + o[0] + ", 1, " + o[1] + ", " + o[2] + ")", x.shift(0, o[0], 1, o[1], o[2]), -13);
        rowIs(x, 1, 2, 3, 4);
        due("37: unlike sorts", x.shift(0, 0, 2, 0, 1), -12);
        due("37: -12 goes ahead of -13", x.shift(0, 9, 2, 0, 1), -12);
        due("37: nothing", x.shift(0, 0, 3, 0, 1), -11);
        due("37: nothing", x.shift(3, 0, 0, 0, 1), -11);
        x.body(0);
        x.keep(4, 0);
        x.keep(5, 0);
        due("37: a body", x.shift(4, 0, 0, 0, 1), -12);
        due("37: a body", x.shift(0, 0, 4, 0, 1), -12);
        due("37: two bodies", x.shift(4, 0, 5, 0, 0), -12);
        due("37: -11 goes ahead of -12", x.shift(4, 0, 3, 0, 1), -11);
        due("37: -11 goes ahead of -12", x.shift(3, 0, 4, 0, 1), -11);
        due("37: no such shelf", x.shift(6, 0, 3, 0, 1), BAD);
        due("37: no such shelf", x.shift(3, 0, -1, 0, 1), BAD);
    }

    private static void count() {
        FortyDesks x = new FortyDesks();
        x.desk(0);
        x.screen(1, 1);
        x.screen(2, 1);
        for (int w = 0; w < 3; w++) x.worker(500, 0, 20000);
        for (int i = 0; i < 4; i++) x.feed('v');
        for (int i = 0; i < 5; i++) x.mend(0, 0, i);
        for (int i = 0; i < 6; i++) x.body(7);
        x.act(5, 3, 0);
        int[] counts = {1, 2, 3, 4, 5, 6, 8};
        for (int what = 0; what < 7; what++) due("39: count(" + what + ")", x.count(what), counts[what]);
        due("39: what", x.count(-1), BAD);
        due("39: what", x.count(7), BAD);
        x.undo();
        due("39: one undone", x.count(4), 4);
    }
}
