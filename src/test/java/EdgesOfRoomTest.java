/** Promises 1 to 12 at their edges: every value around each bound that part 1 of the document names. */
public final class EdgesOfRoomTest {
    private static final int BAD = FortyDesks.BAD, NOT = FortyDesks.NOT, FULL = FortyDesks.FULL, VOID = FortyDesks.VOID;
    private static final int MIN = Integer.MIN_VALUE, MAX = Integer.MAX_VALUE;
    private static final Check check = new Check();

    public static void main(String[] args) {
        newObjects();
        lastCalls();
        sizesOfTheRoom();
        cellsOfEachRoom();
        cells();
        heights();
        oneThingACell();
        tenOfEach();
        workersNumbers();
        firstSeats();
        seatsOfAll();
        settings();
        mended();
        told();
        bytes();
        desksFromRows();
        desksFromRowsThatEnd();
        desksUntilFull();
        check.end("EdgesOfRoomTest");
    }

    private static void due(String call, long got, long want) {
        check.due(call, got, want);
    }

    private static boolean in(int v, int least, int most) {
        return least <= v && v <= most;
    }

    /** "An empty room", whatever other objects have come to. */
    private static void newObjects() {
        FortyDesks first = new FortyDesks();
        FortyDesks used = Told.office(ten() + Told.fed("v;v") + "law() set(0,5) set(1,5) set(2,5) mend(0,0,7) body(0) act(0,1,1)"
            + " keep(0,0) row(1,0,5) put(1,1,1) " + Told.fed("v"));
        FortyDesks later = new FortyDesks();
        check.dueTrue("1: as all new ones", Told.picture(first).equals(Told.picture(later)));
        due("1: the one in use is not touched", used.count(2), 10);
        FortyDesks x = new FortyDesks();
        for (int what = 0; what <= 6; what++) due("1: count(" + what + ")", x.count(what), 0);
        for (int what = 0; what <= 21; what++) due("1: of(0, " + what + ")", x.of(0, what), VOID);
        for (int s = 0; s <= 5; s++) due("1: shelf " + s, x.taken(s, 0), -11);
        due("1: no trace", x.trace(0), BAD);
        due("1: nothing on the tape", x.law(), -100);
        due("1: MASK", x.set(0, 60), 10);
        due("1: CEILING", x.set(1, 9), 0);
        due("1: BOOTHS", x.set(2, 9), 0);
        due("1: 12 by 12", x.room(404), 1212);
    }

    /** "An object is used for at most 512 calls": so the 512th still answers as due. */
    private static void lastCalls() {
        String office = "desk(0) desk(2) worker(505,0,20050) worker(605,0,20050) screen(1,1) ";
        String[] often = {"higher(1)", "set(1,9)", "mend(0,2,9)", "mend(1,0,70)", "undo()", "redo()", "hush()", "swaps(-1)", "law()",
            "body(0)", "act(0,3,1)", "row(0,3,60)", "put(0,59,-1)", "shift(0,0,0,1,59)", "keep(0,0)", "sit(1,-1)", "feed(118)",
            "desk(3)", "worker(0,0,10000)", "screen(4,4)", "desks(0,0,10)", "booths(5,100,0)", "mornings(-1)", "seats(-1)"};
        for (String call : often) {
            FortyDesks x = new FortyDesks();
            int made = Told.calls(x, office);
            for (; made < 506; made++) Told.call(x, call);
            x.set(1, 0);
            x.sit(1, 1);
            x.mend(1, 0, 80);
            x.mend(0, 2, 3);
            x.set(0, 3);
            // behind 511 calls
            due("14: the 512th call, behind many of " + call, x.level(1), 80 - 8 - 6);
        }
        FortyDesks laws = Told.office(office);
        for (int i = 0; i < 250; i++) {
            laws.feed('v');
            laws.law();
        }
        due("14: behind 250 laws", laws.level(1), 60);
    }

    /** "THE ROOM has WIDE by DEEP cells (4 .. 20 each; 12 by 12 at first)." */
    private static void sizesOfTheRoom() {
        FortyDesks x = new FortyDesks();
        int before = 1212, calls = 0;
        for (int wd = -2300; wd <= 23000; wd++) {
            boolean good = wd >= 0 && in(wd / 100, 4, 20) && in(wd % 100, 4, 20);
            due("2: room(" + wd + ")", x.room(wd), good ? before : BAD);
            if (good) before = wd;
            if (++calls < 500) continue;
            x = new FortyDesks();
            before = 1212;
            calls = 0;
        }
        for (int wd : new int[] {MIN, MIN + 1, MAX - 1, MAX, 100 * 404, -404, 404 + 100 * 100, 65536 + 404}) {
            due("2: room(" + wd + ")", new FortyDesks().room(wd), BAD);
        }
    }

    private static void cellsOfEachRoom() {
        for (int wide = 4; wide <= 20; wide++) {
            for (int deep = 4; deep <= 20; deep++) {
                FortyDesks x = new FortyDesks();
                String in = "3: in a room of " + wide + " by " + deep + ", ";
                due(in + "room", x.room(100 * wide + deep), 1212);
                due(in + "beside it", x.desk(100 * wide), BAD);
                due(in + "behind it", x.desk(deep), BAD);
                due(in + "beside it, a screen", x.screen(100 * wide, 1), BAD);
                due(in + "behind it, a screen", x.screen(deep, 1), BAD);
                due(in + "the first cell", x.desk(0), 0);
                due(in + "the last cell", x.desk(100 * (wide - 1) + deep - 1), 1);
                due(in + "the last in front", x.screen(100 * (wide - 1), 1), 0);
                due(in + "the first behind", x.screen(deep - 1, 1), 1);
            }
        }
    }

    /** All cells of the smallest, the first and the greatest room, and what is beside them. */
    private static void cells() {
        for (int wd : new int[] {404, 1212, 2020}) {
            for (int xy = -2100; xy <= 2200; xy++) {
                boolean inside = xy >= 0 && xy / 100 < wd / 100 && xy % 100 < wd % 100;
                FortyDesks x = new FortyDesks();
                x.room(wd);
                due("3: desk(" + xy + ") in " + wd, x.desk(xy), inside ? 0 : BAD);
                if (inside) due("3: of desk " + xy, x.of(0, 10), xy);
                FortyDesks y = new FortyDesks();
                y.room(wd);
                due("5: screen(" + xy + ", 9) in " + wd, y.screen(xy, 9), inside ? 0 : BAD);
                if (inside) due("5: of screen " + xy, y.of(0, 20), xy);
            }
        }
        for (int xy : new int[] {MIN, MIN + 1, -100, -101, 10000, 65536, MAX - 1, MAX}) {
            due("3: desk(" + xy + ")", new FortyDesks().desk(xy), BAD);
            due("5: screen(" + xy + ", 5)", new FortyDesks().screen(xy, 5), BAD);
        }
    }

    /** "SCREENS: a cell, a HEIGHT (1 .. 9)." */
    private static void heights() {
        for (int height = -12; height <= 22; height++) {
            FortyDesks x = new FortyDesks();
            due("5: screen(0, " + height + ")", x.screen(0, height), in(height, 1, 9) ? 0 : BAD);
            due("5: its height", x.of(0, 21), in(height, 1, 9) ? height : VOID);
        }
        for (int height : new int[] {MIN, MAX, 256 + 5, 65536 + 5}) due("5: height", new FortyDesks().screen(0, height), BAD);
    }

    /** "No two things are in one cell." */
    private static void oneThingACell() {
        FortyDesks x = new FortyDesks();
        due("3: a desk", x.desk(505), 0);
        due("5: a screen", x.screen(506, 1), 0);
        due("3: a desk on a desk", x.desk(505), BAD);
        due("3: a desk on a screen", x.desk(506), BAD);
        due("5: a screen on a desk", x.screen(505, 1), BAD);
        due("5: a screen on a screen", x.screen(506, 1), BAD);
        x.row(0, 0, 4);
        for (int i = 0; i < 4; i++) x.put(0, i, i == 3 ? 6 : 5);
        due("4: a desk on a desk", x.desks(0, 0, 1), 0);
        due("4: a desk on a screen", x.desks(0, 2, 1), 0);
        due("3: the same place from the left, another from the front", x.desk(504), 1);
        due("3: the same place from the front, another from the left", x.desk(405), 2);
        due("3: mirrored", x.desk(605), 3);
    }

    /** "DESKS 0 .. 9", "SCREENS 0 .. 9", "WORKERS 0 .. 9, as they come"; FULL: 10. */
    private static void tenOfEach() {
        FortyDesks x = new FortyDesks();
        for (int i = 0; i < 10; i++) {
            due("3: desk " + i, x.desk(100 * i), i);
            due("5: screen " + i, x.screen(100 * i + 1, 1 + i % 9), i);
            due("6: worker " + i, x.worker(i, i, 10000 + i), i);
            due("39: desks", x.count(0), i + 1);
            due("39: screens", x.count(1), i + 1);
            due("39: workers", x.count(2), i + 1);
        }
        due("3: the eleventh", x.desk(1100), FULL);
        due("5: the eleventh", x.screen(1101, 1), FULL);
        due("6: the eleventh", x.worker(0, 0, 10000), FULL);
        for (int i = 0; i < 10; i++) {
            due("10: desk " + i, x.of(i, 10), 100 * i);
            due("10: screen " + i, x.of(i, 20), 100 * i + 1);
            due("10: HEIGHT " + i, x.of(i, 21), 1 + i % 9);
            due("10: worker " + i, x.of(i, 2), i);
            due("10: the desk of one's own number", x.of(i, 5), i);
        }
        due("39: still ten", x.count(0) + x.count(1) + x.count(2), 30);
        // a place that is full leaves the other kinds alone
        FortyDesks y = new FortyDesks();
        for (int i = 0; i < 10; i++) y.desk(i);
        due("5: screens are counted for themselves", y.screen(100, 1), 0);
        due("6: workers are counted for themselves", y.worker(0, 0, 10000), 0);
    }

    /** "VOICE (0 .. 99), MIND (0 .. 9), NEEDS (bits 0 .. 1023), WISH (10 .. 30 degrees), TALK (0 .. 100)." */
    private static void workersNumbers() {
        for (int vm = -30; vm <= 1030; vm++) {
            FortyDesks x = new FortyDesks();
            boolean good = in(vm, 0, 999);
            due("6: worker(" + vm + ", ..)", x.worker(vm, 0, 20000), good ? 0 : BAD);
            due("10: VOICE", x.of(0, 0), good ? vm / 10 : VOID);
            due("10: MIND", x.of(0, 1), good ? vm % 10 : VOID);
        }
        for (int needs = -5; needs <= 1030; needs++) {
            FortyDesks x = new FortyDesks();
            boolean good = in(needs, 0, 1023);
            due("6: worker(.., " + needs + ", ..)", x.worker(0, needs, 20000), good ? 0 : BAD);
            due("10: NEEDS", x.of(0, 2), good ? needs : VOID);
        }
        for (int wt = -1200; wt <= 32200; wt++) {
            FortyDesks x = new FortyDesks();
            boolean good = wt >= 0 && in(wt / 1000, 10, 30) && in(wt % 1000, 0, 100);
            due("6: worker(.., .., " + wt + ")", x.worker(0, 0, wt), good ? 0 : BAD);
            due("10: WISH", x.of(0, 3), good ? wt / 1000 : VOID);
            due("10: TALK", x.of(0, 4), good ? wt % 1000 : VOID);
        }
        for (int v : new int[] {MIN, MIN + 1, -20000, -30100, MAX - 1, MAX}) {
            due("6: vm " + v, new FortyDesks().worker(v, 0, 20000), BAD);
            due("6: needs " + v, new FortyDesks().worker(0, v, 20000), BAD);
            due("6: wt " + v, new FortyDesks().worker(0, 0, v), BAD);
        }
    }

    /** "At first at that of one's own number, if it is there and free then, else at none." */
    private static void firstSeats() {
        FortyDesks x = new FortyDesks();
        x.desk(0);
        x.worker(0, 0, 10000);
        x.worker(0, 0, 10000);
        due("6: it is there", x.of(0, 5), 0);
        due("6: it is not there", x.of(1, 5), -1);
        x.desk(1);
        x.desk(2);
        x.desk(3);
        due("6: it came too late", x.of(1, 5), -1);
        due("7: another one takes it", x.sit(1, 2), -1);
        x.worker(0, 0, 10000);
        due("6: it is not free", x.of(2, 5), -1);
        x.worker(0, 0, 10000);
        due("6: it is there and free", x.of(3, 5), 3);
        due("7: it is left", x.sit(1, -1), 2);
        due("6: one stays at none", x.of(2, 5), -1);
    }

    private static void seatsOfAll() {
        String full = ten();
        for (int w = -3; w <= 12; w++) {
            for (int d = -4; d <= 12; d++) {
                FortyDesks x = Told.office(full);
                boolean good = in(w, 0, 9) && in(d, -1, 9);
                long want = !good ? VOID : d == -1 || d == w ? w : NOT;
                due("7: sit(" + w + ", " + d + ")", x.sit(w, d), want);
                if (good) due("7: of(" + w + ", 5)", x.of(w, 5), d == -1 ? -1 : w);
            }
        }
        FortyDesks x = Told.office(full);
        due("7: up", x.sit(9, -1), 9);
        due("7: the last desk is free", x.sit(0, 9), 0);
        due("7: the first desk is free", x.sit(9, 0), -1);
        due("7: several at none", x.sit(1, -1), 1);
        due("7: several at none", x.sit(2, -1), 2);
        due("7: none again", x.sit(2, -1), -1);
        due("7: one who sits there is in the way", x.sit(3, 9), NOT);
    }

    /** Ten desks in a row of cells, ten screens behind them, ten workers. */
    private static String ten() {
        StringBuilder told = new StringBuilder();
        for (int i = 0; i < 10; i++) {
            told.append("desk(").append(100 * i).append(") screen(").append(100 * i + 1).append(",").append(i % 9 + 1);
            told.append(") worker(").append(100 * i + i).append(",0,20000) ");
        }
        return told.toString();
    }

    /** "MASK (0 .. 60; 10 at first), CEILING (0 .. 9; 0 at first), BOOTHS (0 .. 9; 0 at first)." */
    private static void settings() {
        int[] first = {10, 0, 0}, most = {60, 9, 9};
        for (int what = -3; what <= 5; what++) {
            for (int v = -70; v <= 70; v++) {
                FortyDesks x = new FortyDesks();
                boolean good = in(what, 0, 2) && in(v, 0, most[Math.floorMod(what, 3)]);
                due("8: set(" + what + ", " + v + ")", x.set(what, v), good ? first[what] : BAD);
                for (int other = 0; other < 3; other++) {
                    due("8: then " + other, x.set(other, 1), good && other == what ? v : first[other]);
                }
            }
        }
        for (int v : new int[] {MIN, MAX, 256, 65536}) {
            for (int what = 0; what < 3; what++) due("8: set(" + what + ", " + v + ")", new FortyDesks().set(what, v), BAD);
            due("8: set(" + v + ", 1)", new FortyDesks().set(v, 1), BAD);
        }
    }

    private static void mended() {
        FortyDesks x = Told.office(ten());
        int calls = 30;
        for (int number = -2; number <= 11; number++) {
            for (int what = -2; what <= 4; what++) {
                for (int v = -3; v <= 103; v++) {
                    if (calls > 500) {
                        x = Told.office(ten());
                        calls = 30;
                    }
                    int old = what == 2 ? x.of(number, 21) : x.of(number, what);
                    boolean good = in(number, 0, 9) && in(what, 0, 2) && in(v, what == 2 ? 1 : 0, what == 0 ? 99 : 9);
                    String call = "9: mend(" + number + ", " + what + ", " + v + ")";
                    due(call, x.mend(number, what, v), good ? old : BAD);
                    due(call + ", then", what == 2 ? x.of(number, 21) : x.of(number, what), good ? v : old);
                    calls += 3;
                }
            }
        }
    }

    /** Of ten of each: what there is of each, and no more. */
    private static void told() {
        FortyDesks x = Told.office(ten());
        int calls = 30;
        for (int number = -3; number <= 13; number++) {
            for (int what = -4; what <= 26; what++) {
                boolean there = in(number, 0, 9);
                int n = number;
                long want = !there ? VOID : what == 0 ? 10 * n : what == 1 ? n : what == 2 ? 0 : what == 3 ? 20 : what == 4 ? 0
                    : what == 5 ? n : what == 10 ? 100 * n : what == 20 ? 100 * n + 1 : what == 21 ? n % 9 + 1 : VOID;
                due("10: of(" + number + ", " + what + ")", x.of(number, what), want);
                if (++calls < 500) continue;
                x = Told.office(ten());
                calls = 30;
            }
        }
    }

    /** "A byte (0 .. 255) comes to THE TAPE: how many it has. BAD, FULL (120)." */
    private static void bytes() {
        for (int letter = -300; letter <= 600; letter++) {
            FortyDesks x = new FortyDesks();
            due("11: feed(" + letter + ")", x.feed(letter), in(letter, 0, 255) ? 1 : BAD);
            due("39: then", x.count(3), in(letter, 0, 255) ? 1 : 0);
        }
        FortyDesks x = new FortyDesks();
        for (int i = 1; i <= 120; i++) due("11: byte " + i, x.feed(i % 256), i);
        for (int letter : new int[] {0, 118, 255}) due("11: byte 121", x.feed(letter), FULL);
        for (int letter : new int[] {-1, 256, MIN, MAX}) due("11: BAD goes ahead of FULL", x.feed(letter), BAD);
        due("39: 120", x.count(3), 120);
        due("12: the first byte is 1", x.law(), -100);
        due("12: empty then", x.count(3), 0);
        due("11: from 1 again", x.feed(0), 1);
    }

    /** A row of bytes on shelf 2. */
    private static FortyDesks withRow(int... bytes) {
        FortyDesks x = new FortyDesks();
        x.row(2, 0, bytes.length);
        for (int i = 0; i < bytes.length; i++) x.put(2, i, bytes[i]);
        return x;
    }

    /** "n (1 .. 10) of them": no more come than are asked for, and all that are asked for. */
    private static void desksFromRows() {
        int[] cells = new int[20];
        for (int i = 0; i < 10; i++) cells[2 * i] = i;
        for (int n = -3; n <= 14; n++) {
            FortyDesks x = withRow(cells);
            due("4: desks(2, 0, " + n + ")", x.desks(2, 0, n), in(n, 1, 10) ? n : BAD);
            due("39: then", x.count(0), in(n, 1, 10) ? n : 0);
            if (in(n, 1, 10)) due("10: the last", x.of(n - 1, 10), 100 * (n - 1));
        }
        for (int n : new int[] {MIN, MAX, 256 + 5}) due("4: n", withRow(cells).desks(2, 0, n), BAD);
        for (int shelf = -3; shelf <= 8; shelf++) {
            long want = shelf == 2 ? 3 : in(shelf, 0, 5) ? 0 : BAD;
            due("4: desks(" + shelf + ", 0, 3)", withRow(cells).desks(shelf, 0, 3), want);
        }
        for (int sort = 0; sort <= 4; sort++) {
            FortyDesks x = new FortyDesks();
            x.row(0, sort, 2);
            due("4: a row of sort " + sort, x.desks(0, 0, 1), sort == 0 ? 1 : -12);
            due("39: then", x.count(0), sort == 0 ? 1 : 0);
        }
    }

    /** "It ends where the row is missing, ends (within a two, too), one is not as it may be": those ahead came. */
    private static void desksFromRowsThatEnd() {
        for (int length = 0; length <= 9; length++) {
            int[] cells = new int[length];
            for (int i = 0; i < length; i++) cells[i] = i % 2 == 0 ? i / 2 : 7;
            for (int i = -3; i <= 11; i++) {
                FortyDesks x = withRow(cells);
                int twos = i < 0 || i > length ? 0 : (length - i) / 2;
                // from an odd place on, the cells are 7 from the left
                due("4: " + length + " bytes, from " + i, x.desks(2, i, 10), twos);
                due("39: then", x.count(0), twos);
                if (twos > 0) due("10: the first", x.of(0, 10), i % 2 == 0 ? 100 * (i / 2) + 7 : 700 + (i + 1) / 2);
            }
        }
        for (int wrong : new int[] {-1, 12, 127, -128, 100}) {
            FortyDesks x = withRow(0, 0, wrong, 0, 1, 1);
            due("4: " + wrong + " from the left", x.desks(2, 0, 3), 1);
            due("4: behind it", x.desks(2, 4, 1), 1);
            FortyDesks y = withRow(0, 0, 0, wrong, 1, 1);
            due("4: " + wrong + " from the front", y.desks(2, 0, 3), 1);
            due("39: then", y.count(0), 1);
        }
        FortyDesks x = withRow(256, 257, 11, 11);
        due("4: a byte keeps its lowest bits", x.desks(2, 0, 2), 2);
        due("10: so", x.of(0, 10), 1);
        due("10: the last cell", x.of(1, 10), 1111);
        due("4: the cell is not free now", x.desks(2, 0, 2), 0);
        FortyDesks twice = withRow(3, 3, 3, 3, 4, 4);
        due("4: the same cell twice", twice.desks(2, 0, 3), 1);
        FortyDesks longest = withRow(new int[60]);
        due("4: the last two of the longest row", longest.desks(2, 58, 1), 1);
        due("4: the last byte of the longest row", longest.desks(2, 59, 1), 0);
        due("4: its end", longest.desks(2, 60, 1), 0);
    }

    /** ".. or DESKS are FULL: those ahead came." */
    private static void desksUntilFull() {
        for (int there = 0; there <= 10; there++) {
            int[] cells = new int[20];
            for (int i = 0; i < 10; i++) cells[2 * i] = i;
            FortyDesks x = withRow(cells);
            for (int d = 0; d < there; d++) x.desk(100 * d + 1);
            due("4: " + there + " are there", x.desks(2, 0, 10), 10 - there);
            due("39: ten", x.count(0), 10);
            due("3: FULL", x.desk(1111), FULL);
        }
    }
}
