/** Promises 21 to 29: seats, exchanges, days, mornings, heat, illness, undo and redo. */
public final class SeatsTest {
    private static final int BAD = FortyDesks.BAD, NOT = FortyDesks.NOT, STATE = FortyDesks.STATE, VOID = FortyDesks.VOID;
    private static final Check check = new Check();

    public static void main(String[] args) {
        seats();
        seatsOfState();
        swaps();
        broken();
        drawn();
        booths();
        mornings();
        heat();
        ill();
        undoRedo();
        undoOfNoChange();
        undoForty();
        check.end("SeatsTest");
    }

    private static void due(String call, long got, long want) {
        check.due(call, got, want);
    }

    /** Desks 0 and 1 side by side, desk 2 out of hearing; workers of VOICE 50, MIND 1 who need whom they are told. */
    private static FortyDesks office(int... needs) {
        FortyDesks x = new FortyDesks();
        x.desk(0);
        x.desk(1);
        x.desk(11);
        for (int n : needs) x.worker(501, n, 20100);
        return x;
    }

    private static void seats() {
        FortyDesks x = office(0, 0);
        due("21: out of hearing", x.seats(-1), 0);
        due("21: the first of like ones", x.seats(0), 0);
        due("21: the first of like ones", x.seats(1), 2);
        due("21: in thought", x.of(1, 5), 1);
        due("21: no such worker", x.seats(2), VOID);
        due("21: no such worker", x.seats(-2), VOID);
        FortyDesks y = office(2, 1);
        y.sit(0, 2);
        y.sit(1, -1);
        due("21: side by side", y.seats(-1), 6 * 36);
        due("21: side by side", y.seats(0), 0);
        due("21: side by side", y.seats(1), 1);
        FortyDesks z = office(0, 4, 0);
        // 1 hears 2 for gain 108, whom 2 hears for harm 36; 0 is best out of hearing of both
        due("21: three", z.seats(-1), 72);
        due("21: three", z.seats(0), 2);
        due("21: three", z.seats(1), 0);
        due("21: three", z.seats(2), 1);
    }

    private static void seatsOfState() {
        FortyDesks x = new FortyDesks();
        due("21: no workers", x.seats(-1), VOID);
        x.desk(0);
        due("21: no workers", x.seats(-1), VOID);
        x.worker(500, 0, 20000);
        due("21: one and one", x.seats(0), 0);
        x.worker(500, 0, 20000);
        due("21: fewer desks", x.seats(-1), VOID);
        for (int d = 1; d < 6; d++) x.desk(100 * d);
        due("21: six desks", x.seats(-1), 0);
        for (int w = 2; w < 5; w++) x.worker(500, 0, 20000);
        due("21: five workers", x.seats(4), 4);
        x.worker(500, 0, 20000);
        due("21: six workers", x.seats(-1), VOID);
        FortyDesks y = new FortyDesks();
        for (int d = 0; d < 7; d++) y.desk(d);
        y.worker(500, 0, 20000);
        due("21: seven desks", y.seats(-1), VOID);
        due("21: seven desks", y.seats(0), VOID);
    }

    private static void swaps() {
        FortyDesks x = office(0, 0);
        x.worker(0, 0, 20000);
        due("22: now", x.net(), -72);
        due("22: how many", x.swaps(-1), 1);
        due("22: NET", x.swaps(-2), 0);
        due("22: the first pair of like ones", x.swaps(0), 2);
        due("22: the first pair of like ones", x.swaps(1), 1);
        due("22: the first pair of like ones", x.swaps(2), 0);
        due("22: in thought", x.of(0, 5), 0);
        due("22: in thought", x.net(), -72);
        due("22: no such worker", x.swaps(3), VOID);
        due("22: no such worker", x.swaps(-3), VOID);
        x.sit(2, -1);
        due("22: with one at none", x.swaps(-1), 1);
        due("22: with one at none", x.swaps(0), -1);
        due("22: with one at none", x.swaps(2), 0);
        FortyDesks y = new FortyDesks();
        due("22: nobody", y.swaps(-1), 0);
        due("22: nobody", y.swaps(-2), 0);
        due("22: nobody", y.swaps(0), VOID);
    }

    private static void broken() {
        FortyDesks x = office(0, 0);
        due("23: both, each minute", x.broken(1, 10, -1), 20);
        due("23: one", x.broken(1, 10, 0), 10);
        due("23: one minute", x.broken(1, 1, 1), 1);
        due("23: n 0", x.broken(1, 0, -1), BAD);
        due("23: n 101", x.broken(1, 101, -1), BAD);
        due("23: n 100", x.broken(1, 100, -1), 200);
        due("23: no such worker", x.broken(1, 1, 2), BAD);
        due("23: no such worker", x.broken(1, 1, -2), BAD);
        x.set(2, 1);
        due("23: 0 in a booth still hears 1", x.broken(1, 10, 0), 10);
        due("23: 1 does not hear 0", x.broken(1, 10, 1), 0);
        x.set(2, 2);
        due("23: both in booths", x.broken(1, 10, -1), 0);
        FortyDesks y = office(2, 0);
        due("23: 0 needs 1", y.broken(1, 10, 0), 0);
        due("23: 1 does not need 0", y.broken(1, 10, 1), 10);
        y.sit(0, -1);
        due("23: 0 sits at none", y.broken(1, 10, -1), 0);
        y.sit(0, 2);
        due("23: out of hearing", y.broken(1, 10, -1), 0);
        due("23: nobody", new FortyDesks().broken(0, 5, -1), 0);
        FortyDesks z = office(0, 0);
        z.worker(501, 0, 20100);
        z.sit(0, -1);
        z.sit(2, 0);
        z.set(2, 1);
        due("23: one at none speaks, and takes the booth", z.broken(1, 10, -1), 20);
    }

    /** The draws, by TALK below 100: the document's own line, written out. */
    private static void drawn() {
        int[] talks = {30, 55, 1, 99, 0, 80};
        for (int seed : new int[] {0, 7, -1, 123456789, Integer.MIN_VALUE}) {
            FortyDesks x = new FortyDesks();
            for (int d = 0; d < talks.length; d++) x.desk(d);
            for (int talk : talks) x.worker(991, 0, 20000 + talk);
            x.set(2, 1);
            int[] broken = new int[talks.length];
            int z = seed, all = 0;
            for (int minute = 0; minute < 77; minute++) {
                boolean[] open = new boolean[talks.length];
                boolean free = true;
                for (int w = 0; w < talks.length; w++) {
                    z = z * 1103515245 + 12345;
                    if ((z >>> 8) % 100 >= talks[w]) continue;
                    open[w] = !free;
                    free = false;
                }
                for (int w = 0; w < talks.length; w++) {
                    boolean hears = false;
                    for (int u = 0; u < talks.length; u++) hears |= u != w && open[u];
                    if (hears) broken[w]++;
                }
            }
            for (int w = 0; w < talks.length; w++) {
                due("23: seed " + seed + ", worker " + w, x.broken(seed, 77, w), broken[w]);
                all += broken[w];
            }
            due("23: seed " + seed + ", all", x.broken(seed, 77, -1), all);
        }
    }

    private static void booths() {
        FortyDesks x = office(0, 0);
        x.set(2, 9);
        due("24: 20 are told", x.booths(1, 10, 20), 0);
        due("24: 19 are told", x.booths(1, 10, 19), 1);
        due("24: 10 are told", x.booths(1, 10, 10), 1);
        due("24: 9 are told", x.booths(1, 10, 9), 2);
        due("24: 0 are told", x.booths(1, 10, 0), 2);
        int[][] bad = {{0, 0}, {101, 0}, {1, -1}, {1, 1001}};
        for (int[] b : bad) due("24: booths(1, " + b[0] + ", " + b[1] + ")", x.booths(1, b[0], b[1]), BAD);
        due("24: in thought", x.set(2, 0), 9);
        due("24: nobody", new FortyDesks().booths(0, 100, 0), 0);
        FortyDesks y = new FortyDesks();
        for (int d = 0; d < 10; d++) y.desk(100 * (d / 5) + d % 5);
        for (int w = 0; w < 10; w++) y.worker(991, 0, 20100);
        due("24: the tenth has none", y.booths(3, 1, 8), NOT);
        due("24: nine hear the tenth", y.booths(3, 1, 9), 9);
        due("24: all hear somebody", y.booths(3, 1, 10), 0);
        due("24: 1000", y.booths(3, 100, 1000), 0);
        due("24: 999", y.booths(3, 100, 999), 9);
    }

    private static void mornings() {
        FortyDesks x = office(0, 0);
        // 0 goes to 1's desk, for there 1 is thought at none, and 1 out of hearing; then 0 to the least such desk
        due("25: the third", x.mornings(-1), 3);
        due("25: 0", x.mornings(0), 0);
        due("25: 1", x.mornings(1), 2);
        due("25: in thought", x.of(1, 5), 1);
        due("25: no such worker", x.mornings(2), VOID);
        due("25: no such worker", x.mornings(-2), VOID);
        due("25: nobody", new FortyDesks().mornings(-1), 1);
        FortyDesks y = new FortyDesks();
        for (int w = 0; w < 3; w++) y.worker(500, 0, 20000);
        due("25: no desks", y.mornings(-1), 1);
        y.desk(0);
        y.desk(1);
        due("25: in order", y.mornings(0), 0);
        due("25: in order", y.mornings(1), 1);
        due("25: none free", y.mornings(2), -1);
        due("25: the second leaves all", y.mornings(-1), 2);
        // 0 minds 1, 1 needs 0: 1 comes after 0 as long as there is a way
        FortyDesks z = office(0, 1);
        due("25: one flees, one follows", z.mornings(-1), NOT);
        due("25: one flees, one follows", z.mornings(0), NOT);
        due("25: BAD goes ahead of NOT", z.mornings(2), VOID);
        FortyDesks last = Check.office("D102 D106 D607 D400 D700 D505 D104 D507 D203 D503 W174/290 W6/813 W96/224 W0/560"
            + " W85/91 W80/30 W37/465 W305/478 W32/690 M18 (v*94+d*17)%58");
        due("25: the last morning", last.mornings(-1), 50);
        FortyDesks late = Check.office("D402 D403 D100 D6 D505 D302 D208 D507 W0/807 W250/253 W0/653 W567/497 W155/183"
            + " W87/28 W42/715 W249/723 W0/250 M2 (v*9+d*24)%65");
        due("25: a morning too late", late.mornings(-1), NOT);
    }

    private static void heat() {
        FortyDesks x = new FortyDesks();
        due("26: what", x.heat(-1), BAD);
        due("26: what", x.heat(4), BAD);
        due("26: nobody", x.heat(0), STATE);
        due("26: nobody", x.heat(3), STATE);
        int[][] rounds = {{20, 20, 0, 20, 0}, {30, 20, 10, 25, 5}, {22, 22, 10, 25, 5}, {21, 21, 11, 25, 5},
            {10, 21, 22, 20, 10}, {10, 20, 33, 20, 10}};
        for (int[] r : rounds) {
            x.worker(500, 0, 1000 * r[0]);
            for (int what = 0; what < 4; what++) due("26: with " + r[0] + ", heat(" + what + ")", x.heat(what), r[what + 1]);
        }
        FortyDesks y = new FortyDesks();
        y.worker(0, 0, 20000);
        y.worker(0, 0, 23000);
        due("26: FAIR: of like ones the least", y.heat(2), 21);
        due("26: FAIR: 2", y.heat(3), 2);
        FortyDesks z = new FortyDesks();
        z.worker(0, 0, 30000);
        due("26: 30", z.heat(0), 30);
        due("26: 30", z.heat(2), 30);
    }

    private static void ill() {
        FortyDesks x = new FortyDesks();
        for (int xy : new int[] {0, 2, 4, 9}) x.desk(xy);
        for (int w = 0; w < 5; w++) x.worker(500, 0, 20000);
        due("27: by twos", x.ill(0, 23, 0), 3);
        due("27: by twos", x.ill(0, 23, 1), 4);
        due("27: from the middle", x.ill(1, 23, 1), 3);
        due("27: not near enough", x.ill(0, 13, 0), 1);
        due("27: alone for 3 days", x.ill(0, 13, 1), 2);
        due("27: no farther than 5", x.ill(0, 51, 0), 4);
        due("27: a day each", x.ill(0, 51, 1), 2);
        due("27: r 0", x.ill(0, 9, 0), 1);
        due("27: L 9", x.ill(0, 9, 1), 8);
        due("27: r 40", x.ill(3, 409, 0), 4);
        due("27: r 40", x.ill(3, 409, 1), 9);
        due("27: one at none", x.ill(4, 401, 0), 1);
        due("27: one at none", x.ill(4, 401, 1), 0);
        x.sit(1, -1);
        due("27: the chain is broken", x.ill(0, 23, 0), 1);
        int[][] bad = {{-1, 11, 0}, {5, 11, 0}, {0, 0, 0}, {0, 10, 0}, {0, 400, 0}, {0, 410, 0}, {0, 411, 0}, {0, -1, 0},
            {0, -11, 0}, {0, 11, 2}, {0, 11, -1}, {0, Integer.MAX_VALUE, 0}, {0, Integer.MIN_VALUE, 0}};
        for (int[] b : bad) due("27: ill(" + b[0] + ", " + b[1] + ", " + b[2] + ")", x.ill(b[0], b[1], b[2]), BAD);
    }

    private static void undoRedo() {
        FortyDesks x = new FortyDesks();
        due("28: none", x.undo(), STATE);
        due("29: none", x.redo(), STATE);
        x.desk(0);
        x.desk(2);
        x.screen(1, 1);
        x.worker(505, 0, 20000);
        x.worker(505, 0, 20000);
        due("28: only mending can be undone", x.undo(), STATE);
        x.mend(0, 0, 90);
        x.mend(0, 2, 5);
        x.mend(1, 1, 7);
        due("28: before", x.level(10), 90 - 8 - 10);
        due("28: the latest first", x.undo(), 2);
        due("28: MIND", x.of(1, 1), 5);
        due("28: HEIGHT", x.undo(), 1);
        due("28: HEIGHT", x.of(0, 21), 1);
        due("28: heard", x.level(10), 90 - 8 - 2);
        due("28: VOICE", x.undo(), 0);
        due("28: VOICE", x.of(0, 0), 50);
        due("28: no more", x.undo(), STATE);
        due("29: VOICE", x.redo(), 2);
        due("29: VOICE", x.of(0, 0), 90);
        due("29: HEIGHT", x.redo(), 1);
        due("29: heard", x.level(10), 90 - 8 - 10);
        due("29: may be undone", x.count(4), 2);
        due("29: refused, so it changes nothing", x.mend(0, 0, 100), BAD);
        due("29: MIND", x.redo(), 0);
        due("29: MIND", x.of(1, 1), 7);
        due("29: no more", x.redo(), STATE);
        x.undo();
        x.undo();
        x.mend(0, 0, 10);
        due("29: another came behind", x.redo(), STATE);
        due("28: two", x.count(4), 2);
        due("28: that", x.undo(), 1);
        due("28: that", x.of(0, 0), 90);
        due("29: that again", x.redo(), 0);
        due("29: that again", x.of(0, 0), 10);
    }

    private static void undoOfNoChange() {
        FortyDesks x = new FortyDesks();
        x.worker(0, 0, 15000);
        x.screen(0, 4);
        int[][] asItIs = {{0, 0, 0}, {0, 1, 0}, {0, 2, 4}};
        for (int[] a : asItIs) {
            due("28: mend to what it is", x.mend(a[0], a[1], a[2]), a[2]);
            due("28: no change, so none to undo", x.undo(), STATE);
        }
        for (int v = 1; v <= 40; v++) x.mend(0, 0, v);
        due("28: forty are kept, and as it was drops none", x.mend(0, 0, 40), 40);
        for (int left = 39; left >= 1; left--) due("28: undo", x.undo(), left);
        due("29: mend to what it is now", x.mend(0, 0, 1), 1);
        due("29: no other change came behind", x.redo(), 38);
        due("29: done again", x.of(0, 0), 2);
        x.undo();
        due("28: the first one, too", x.undo(), 0);
        due("28: as at first", x.of(0, 0), 0);
        due("28: no more", x.undo(), STATE);
        x.mend(0, 1, 9);
        due("29: another change came behind", x.redo(), STATE);
    }

    private static void undoForty() {
        FortyDesks x = new FortyDesks();
        x.worker(0, 0, 20000);
        for (int v = 1; v <= 43; v++) due("28: mend to " + v, x.mend(0, 0, v), v - 1);
        due("28: forty are kept", x.count(4), 40);
        for (int left = 39; left >= 0; left--) due("28: undo", x.undo(), left);
        due("28: no more", x.undo(), STATE);
        due("28: the first three stay", x.of(0, 0), 3);
        for (int left = 39; left >= 0; left--) {
            due("29: redo", x.redo(), left);
            due("29: one more", x.of(0, 0), 43 - left);
        }
        due("29: all again", x.of(0, 0), 43);
        x.undo();
        due("28: one more behind 39", x.mend(0, 1, 9), 0);
        due("28: forty", x.count(4), 40);
    }
}
