/** Promises 30 to 39 at their edges: fifty bodies, ints that wrap, shelves, sizes, places, and what is not there. */
public final class EdgesOfActsTest {
    private static final int BAD = FortyDesks.BAD, FULL = FortyDesks.FULL;
    private static final int MIN = Integer.MIN_VALUE, MAX = Integer.MAX_VALUE;
    private static final long NONE = Long.MIN_VALUE;
    private static final Check check = new Check();

    public static void main(String[] args) {
        kinds();
        fiftyBodies();
        actsThatWrap();
        actsThatAreNotThere();
        traceOfTheLatest();
        shelvesAndBodies();
        takenFor();
        sortsAndSizes();
        elementsAtFirst();
        lowestBits();
        places();
        shiftsOfAllPlaces();
        shiftsWithinOneRow();
        shiftsOfEachSort();
        counts();
        check.end("EdgesOfActsTest");
    }

    private static void due(String call, long got, long want) {
        check.due(call, got, want);
    }

    private static boolean in(int v, int least, int most) {
        return least <= v && v <= most;
    }

    /** "A BODY of a KIND (0 .. 7)". */
    private static void kinds() {
        for (int kind = -10; kind <= 18; kind++) {
            FortyDesks x = new FortyDesks();
            due("30: body(" + kind + ")", x.body(kind), in(kind, 0, 7) ? 0 : BAD);
            due("39: then", x.count(5), in(kind, 0, 7) ? 1 : 0);
        }
        for (int kind : new int[] {MIN, MAX, 256, 65536}) due("30: body(" + kind + ")", new FortyDesks().body(kind), BAD);
    }

    /** "BODIES 0 .. 49 are kept by call". */
    private static void fiftyBodies() {
        FortyDesks x = new FortyDesks();
        for (int b = 0; b < 50; b++) {
            due("31: not there yet", x.act(b, 0, 1), 0);
            due("33: not there yet", x.keep(0, b), BAD);
            due("30: body " + b, x.body(b % 8), b);
            due("33: there", x.keep(0, b), 1);
            due("38: its kind", x.taken(0, 0), b % 8);
        }
        for (int kind = 0; kind < 8; kind++) due("30: the 51st", x.body(kind), FULL);
        for (int kind : new int[] {-1, 8, MIN, MAX}) due("30: BAD goes ahead of FULL", x.body(kind), BAD);
        due("39: fifty", x.count(5), 50);
        due("31: body 49 is CLEAR", x.act(49, 0, 100), 100 + 49 + 3);
        due("31: body 50 is not there", x.act(50, 0, 100), 0);
        due("33: body 50 is not there", x.keep(0, 50), BAD);
    }

    /** Java's own classes of the Model tell what comes from above; here at the ends of the ints, by each body's number. */
    private static void actsThatWrap() {
        int[] ends = {MIN, MIN + 1, MIN / 2, MIN / 2 - 1, -2, -1, 0, 1, 2, MAX / 2, MAX / 2 + 1, MAX - 60, MAX - 1, MAX};
        FortyDesks x = new FortyDesks();
        Model m = new Model();
        for (int b = 0; b < 50; b++) {
            x.body(b % 8);
            m.body(b % 8);
        }
        int calls = 50;
        for (int b = 0; b < 50; b++) {
            for (int act = 0; act < 4; act++) {
                for (int v : ends) {
                    due("31: act(" + b + ", " + act + ", " + v + ")", x.act(b, act, v), m.act(b, act, v));
                    due("39: bodies that ran", x.count(6), m.count(6));
                    calls += 2;
                    if (calls < 500) continue;
                    x = new FortyDesks();
                    for (int again = 0; again < 50; again++) x.body(again % 8);
                    calls = 50;
                }
            }
        }
        FortyDesks y = Told.office("body(0) body(1) body(2) body(3) body(4) body(5) body(6) body(7)");
        due("31: x + n wraps", y.act(1, 0, MAX), MIN + 3);
        due("31: times 2 wraps", y.act(0, 1, MIN / 2 - 1), MAX - 1);
        due("31: the least int has no other sign", y.act(2, 1, (1 << 30) - 2), MIN);
        due("31: x + 1 wraps", y.act(3, 1, MAX), -2 * (MIN + 3));
        due("31: times 3 wraps", y.act(3, 2, MAX), (MAX ^ 3) * 3);
        due("31: less 1 wraps", y.act(7, 0, (MIN >> 1) - 7), MIN - 1);
    }

    /** "0, and no TRACE then: no such BODY, ACT." */
    private static void actsThatAreNotThere() {
        for (int b = -3; b <= 6; b++) {
            for (int act = -3; act <= 7; act++) {
                FortyDesks x = Told.office("body(5) body(5) body(5) body(5) act(3,3,1)");
                due("39: ten ran", x.count(6), 10);
                boolean good = in(b, 0, 3) && in(act, 0, 3);
                int[] of = {10 + b + 3, 2 * (10 + b + 3), (10 ^ b) - (2 + b + 3)};
                if (!good) due("31: act(" + b + ", " + act + ", 10)", x.act(b, act, 10), 0);
                else if (act < 3) due("31: act(" + b + ", " + act + ", 10)", x.act(b, act, 10), of[act]);
                else x.act(b, act, 10);
                int[] ran = {2, 3, 4, 10};
                due("39: then, of act(" + b + ", " + act + ", 10)", x.count(6), good ? ran[act] : 0);
                if (!good) due("32: no TRACE", x.trace(0), BAD);
            }
        }
        for (int v : new int[] {MIN, MAX, 256, 65536}) {
            due("31: body " + v, Told.office("body(0)").act(v, 0, 9), 0);
            due("31: act " + v, Told.office("body(0)").act(0, v, 9), 0);
        }
    }

    /** THE TRACE is that of the latest act(), from place 0 to the last that ran. */
    private static void traceOfTheLatest() {
        FortyDesks x = Told.office("body(5) body(0)");
        for (int i = -3; i <= 30; i++) due("32: no act yet", x.trace(i), BAD);
        x.act(0, 3, 1);
        int[] moves = {61, 50, 2, 10, 20, 1, 60, 11, 20, 1};
        for (int i = -3; i <= 30; i++) due("32: trace(" + i + ")", x.trace(i), in(i, 0, 9) ? moves[i] : BAD);
        x.act(1, 0, 1);
        for (int i = -3; i <= 30; i++) due("32: a shorter one, trace(" + i + ")", x.trace(i), i == 0 ? 1 : BAD);
        for (int i : new int[] {MIN, MAX, 23, 24, 25, 256, 65536}) due("32: trace(" + i + ")", x.trace(i), BAD);
        x.act(2, 0, 1);
        for (int i = -1; i <= 2; i++) due("32: none, trace(" + i + ")", x.trace(i), BAD);
    }

    /** "SHELVES 0 .. 5 each hold nothing (at first), a BODY, or a ROW". */
    private static void shelvesAndBodies() {
        for (int shelf = -3; shelf <= 9; shelf++) {
            for (int body = -4; body <= 5; body++) {
                FortyDesks x = Told.office("body(1) body(2) row(0,0,1) row(1,0,1) row(2,0,1) row(3,0,1) row(4,0,1) row(5,0,1)");
                boolean good = in(shelf, 0, 5) && in(body, -1, 1);
                due("33: keep(" + shelf + ", " + body + ")", x.keep(shelf, body), good ? 1 : BAD);
                for (int s = 0; s < 6; s++) {
                    long want = !good || s != shelf ? -12 : body < 0 ? -11 : body + 1;
                    due("38: then shelf " + s, x.taken(s, 0), want);
                }
            }
        }
        FortyDesks x = new FortyDesks();
        for (int s = 0; s < 6; s++) {
            due("38: nothing at first", x.taken(s, 0), -11);
            due("35: nothing at first", x.put(s, 0, 1), -11);
            due("36: nothing at first", x.element(s, 0), NONE);
            due("33: nothing again", x.keep(s, -1), 1);
            due("33: no body yet", x.keep(s, 0), BAD);
            due("38: nothing again", x.taken(s, 0), -11);
        }
        for (int v : new int[] {MIN, MAX, 256, 65536}) {
            due("33: shelf " + v, x.keep(v, -1), BAD);
            due("33: body " + v, x.keep(0, v), BAD);
        }
        FortyDesks y = Told.office("body(4) keep(0,0) keep(5,0) row(0,3,2) put(0,1,9)");
        due("33: one body on two shelves", y.taken(5, 0), 4);
        due("33: the row stays when another shelf changes", y.keep(5, -1), 1);
        due("36: the row stays", y.element(0, 1), 9);
        due("33: nothing instead of a row", y.keep(0, -1), 1);
        due("35: -11, not -12", y.put(0, 0, 1), -11);
        due("34: a row again", y.row(0, 3, 2), 1);
        due("36: 0 at first", y.element(0, 1), 0);
    }

    /** "Taken for a BODY of KIND k (0 .. 7), or under it: its KIND." */
    private static void takenFor() {
        String[] above = {"0", "01", "02", "023", "014", "0145", "06", "067"};
        for (int kind = 0; kind < 8; kind++) {
            for (int shelf = -2; shelf <= 7; shelf++) {
                FortyDesks x = Told.office("body(" + kind + ") keep(0,0) keep(5,0) row(4,0,0)");
                for (int k = -3; k <= 10; k++) {
                    boolean under = in(k, 0, 7) && above[kind].indexOf('0' + k) >= 0;
                    long want = !in(shelf, 0, 5) || !in(k, 0, 7) ? BAD : shelf == 4 ? -12 : in(shelf, 1, 3) ? -11 : under ? kind : -12;
                    due("38: " + kind + ", taken(" + shelf + ", " + k + ")", x.taken(shelf, k), want);
                }
            }
        }
    }

    /** "Of 0 .. 60 elements"; "BAD (sort, n above 60); -14". */
    private static void sortsAndSizes() {
        for (int shelf = -2; shelf <= 7; shelf++) {
            for (int sort = -2; sort <= 6; sort++) {
                for (int n : new int[] {MIN, -61, -60, -2, -1, 0, 1, 2, 59, 60, 61, 62, 256, MAX}) {
                    FortyDesks x = new FortyDesks();
                    long want = !in(shelf, 0, 5) || !in(sort, 0, 4) || n > 60 ? BAD : n < 0 ? -14 : 1;
                    due("34: row(" + shelf + ", " + sort + ", " + n + ")", x.row(shelf, sort, n), want);
                    if (want != 1) {
                        for (int s = 0; s < 6; s++) due("34: then shelf " + s, x.put(s, 0, 1), -11);
                        continue;
                    }
                    due("35: ahead of the first", x.put(shelf, -1, 1), -13);
                    due("35: the last", x.put(shelf, n - 1, 1), n > 0 ? 1 : -13);
                    due("35: behind the last", x.put(shelf, n, 1), -13);
                    due("36: the last", x.element(shelf, n - 1), n > 0 ? 1 : NONE);
                    due("36: behind the last", x.element(shelf, n), NONE);
                    due("36: ahead of the first", x.element(shelf, -1), NONE);
                }
            }
        }
    }

    /** "0 at first (false)", in a new row on a shelf that held another one, too. */
    private static void elementsAtFirst() {
        for (int sort = 0; sort <= 4; sort++) {
            for (int next = 0; next <= 4; next++) {
                FortyDesks x = new FortyDesks();
                x.row(0, sort, 60);
                for (int i = 0; i < 60; i++) x.put(0, i, -1);
                due("34: a short row", x.row(0, next, 1), 1);
                due("36: 0 at first", x.element(0, 0), 0);
                due("36: its end", x.element(0, 1), NONE);
                due("34: a long row", x.row(0, next, 60), 1);
                for (int i = 0; i < 60; i++) due("36: 0 at first", x.element(0, i), 0);
                due("36: its end", x.element(0, 60), NONE);
            }
        }
    }

    /** "What is put in keeps its lowest bits (a boolean: whether it is not 0; 1 or 0)." */
    private static void lowestBits() {
        FortyDesks x = new FortyDesks();
        int calls = 0;
        for (int bit = 0; bit <= 64; bit++) {
            for (int beside = -1; beside <= 1; beside++) {
                long v = (bit == 64 ? 0 : 1L << bit) + beside;
                for (long put : new long[] {v, -v}) {
                    for (int sort = 0; sort <= 4; sort++) {
                        if (calls++ % 160 == 0) {
                            x = new FortyDesks();
                            for (int s = 0; s <= 4; s++) x.row(s, s, 2);
                        }
                        long kept = sort == 0 ? (byte) put : sort == 1 ? (short) put : sort == 2 ? (int) put : sort == 3 ? put : put != 0 ? 1 : 0;
                        due("35: put(" + sort + ", 1, " + put + ")", x.put(sort, 1, put), 1);
                        due("36: element of sort " + sort, x.element(sort, 1), kept);
                        due("36: the one ahead", x.element(sort, 0), 0);
                    }
                }
            }
        }
        x = Told.office("row(0,3,1) put(0,0,-9223372036854775808)");
        due("36: the least long is an element, too", x.element(0, 0), Long.MIN_VALUE);
        due("35: its place is there", x.put(0, 0, 5), 1);
        due("36: its place is there", x.element(0, 0), 5);
    }

    private static void places() {
        for (int n : new int[] {0, 1, 2, 59, 60}) {
            FortyDesks x = new FortyDesks();
            x.row(3, 2, n);
            for (int i = -4; i <= 64; i++) {
                due("35: put(3, " + i + ", 7) of " + n, x.put(3, i, i + 100), in(i, 0, n - 1) ? 1 : -13);
                due("36: element(3, " + i + ") of " + n, x.element(3, i), in(i, 0, n - 1) ? i + 100 : NONE);
            }
            for (int i : new int[] {MIN, MIN + 1, MAX - 1, MAX, 256, 65536, -65536}) {
                due("35: put(3, " + i + ", 7) of " + n, x.put(3, i, 7), -13);
                due("36: element(3, " + i + ") of " + n, x.element(3, i), NONE);
            }
        }
    }

    /** All places and numbers of elements around two rows of three and five: those that are there, and no others. */
    private static void shiftsOfAllPlaces() {
        for (int i = -2; i <= 5; i++) {
            for (int j = -2; j <= 7; j++) {
                for (int n = -2; n <= 6; n++) {
                    FortyDesks x = Told.office("row(0,1,3) put(0,0,11) put(0,1,12) put(0,2,13) row(1,1,5) put(1,0,21) put(1,1,22)"
                        + " put(1,2,23) put(1,3,24) put(1,4,25)");
                    boolean good = i >= 0 && j >= 0 && n >= 0 && i + n <= 3 && j + n <= 5;
                    String call = "37: shift(0, " + i + ", 1, " + j + ", " + n + ")";
                    due(call, x.shift(0, i, 1, j, n), good ? n : -13);
                    for (int e = 0; e < 3; e++) due(call + ", from", x.element(0, e), 11 + e);
                    for (int e = 0; e < 5; e++) {
                        due(call + ", to " + e, x.element(1, e), good && e >= j && e < j + n ? 11 + i + e - j : 21 + e);
                    }
                }
            }
        }
        int[] ends = {MIN, MIN + 1, -1, MAX - 1, MAX};
        FortyDesks x = Told.office("row(0,1,3) row(1,1,5)");
        for (int e : ends) {
            due("37: from " + e, x.shift(0, e, 1, 0, 1), -13);
            due("37: to " + e, x.shift(0, 0, 1, e, 1), -13);
            due("37: " + e + " of them", x.shift(0, 0, 1, 0, e), -13);
            due("37: " + e + " of them, from the end on", x.shift(0, 3, 1, 5, e), -13);
            for (int other : ends) due("37: " + e + ", " + other, x.shift(0, e, 1, other, e), -13);
        }
    }

    /** "As they all were before". */
    private static void shiftsWithinOneRow() {
        for (int i = 0; i <= 6; i++) {
            for (int j = 0; j <= 6; j++) {
                for (int n = 0; n <= 7; n++) {
                    FortyDesks x = new FortyDesks();
                    x.row(5, 3, 6);
                    for (int e = 0; e < 6; e++) x.put(5, e, e + 1);
                    boolean good = i + n <= 6 && j + n <= 6;
                    String call = "37: shift(5, " + i + ", 5, " + j + ", " + n + ")";
                    due(call, x.shift(5, i, 5, j, n), good ? n : -13);
                    for (int e = 0; e < 6; e++) {
                        due(call + ", then " + e, x.element(5, e), good && e >= j && e < j + n ? i + e - j + 1 : e + 1);
                    }
                }
            }
        }
        FortyDesks x = new FortyDesks();
        x.row(0, 2, 60);
        for (int e = 0; e < 60; e++) x.put(0, e, e);
        due("37: all but the last, by one", x.shift(0, 0, 0, 1, 59), 59);
        for (int e = 0; e < 60; e++) due("37: then " + e, x.element(0, e), Math.max(0, e - 1));
        due("37: all of the longest", x.shift(0, 0, 0, 0, 60), 60);
        due("37: one more", x.shift(0, 0, 0, 0, 61), -13);
    }

    /** "-11 (either), -12 (no ROWS, or of unlike sorts)". */
    private static void shiftsOfEachSort() {
        String[] held = {"keep(%,-1)", "keep(%,0)", "row(%,0,2)", "row(%,1,2)", "row(%,2,2)", "row(%,3,2)", "row(%,4,2)"};
        for (int one = 0; one < held.length; one++) {
            for (int other = 0; other < held.length; other++) {
                FortyDesks x = Told.office("body(0) " + held[one].replace("%", "0") + " " + held[other].replace("%", "1"));
                long want = one == 0 || other == 0 ? -11 : one == 1 || other == 1 || one != other ? -12 : 2;
                due("37: " + held[one] + " to " + held[other], x.shift(0, 0, 1, 0, 2), want);
                due("37: " + held[one] + " to " + held[other] + ", too many", x.shift(0, 0, 1, 0, 3), want == 2 ? -13 : want);
                due("37: " + held[one] + " to " + held[other] + ", none", x.shift(0, 0, 1, 0, 0), want == 2 ? 0 : want);
                for (int bad : new int[] {-1, 6, MIN, MAX}) {
                    due("37: no such shelf", x.shift(bad, 0, 1, 0, 2), BAD);
                    due("37: no such shelf", x.shift(0, 0, bad, 0, 2), BAD);
                }
            }
        }
    }

    private static void counts() {
        FortyDesks x = new FortyDesks();
        for (int what = -5; what <= 12; what++) due("39: count(" + what + ") at first", x.count(what), in(what, 0, 6) ? 0 : BAD);
        for (int what : new int[] {MIN, MAX, 256, 65536}) due("39: count(" + what + ")", x.count(what), BAD);
        // the most there is of each
        for (int i = 0; i < 10; i++) {
            x.desk(i);
            x.screen(100 + i, 1);
            x.worker(0, 0, 10000);
        }
        for (int i = 0; i < 121; i++) x.feed(0);
        for (int i = 1; i <= 41; i++) x.mend(0, 0, i);
        for (int i = 0; i < 51; i++) x.body(5);
        x.act(0, 3, 0);
        int[] most = {10, 10, 10, 120, 40, 50, 10};
        for (int what = 0; what <= 6; what++) due("39: the most of " + what, x.count(what), most[what]);
    }
}
