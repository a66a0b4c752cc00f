/** Promises 13 to 20: ways, levels, who hears whom, and voices at rest. */
public final class SoundTest {
    private static final int BAD = FortyDesks.BAD, NOT = FortyDesks.NOT, VOID = FortyDesks.VOID;
    private static final Check check = new Check();

    public static void main(String[] args) {
        way();
        level();
        hearsAndNet();
        quiet();
        higher();
        rest();
        restOfLaws();
        hush();
        check.end("SoundTest");
    }

    private static void due(String call, long got, long want) {
        check.due(call, got, want);
    }

    private static void way() {
        FortyDesks x = new FortyDesks();
        due("13: no desks", x.way(0, 0), BAD);
        x.desk(203);
        x.desk(501);
        x.desk(200);
        int[][] screens = {{201, 1}, {503, 2}, {302, 4}, {102, 9}, {304, 9}, {601, 9}, {300, 8}};
        for (int[] s : screens) x.screen(s[0], s[1]);
        due("13: FAR", x.way(1, 0), 5);
        due("13: FAR back", x.way(10, 0), 5);
        due("13: FAR ahead only", x.way(2, 0), 3);
        due("13: BETWEEN with both edges' corners", x.way(1, 1), 7);
        due("13: BETWEEN back", x.way(10, 1), 7);
        due("13: BETWEEN in one file of cells", x.way(20, 1), 1);
        due("13: BETWEEN 1 and 2", x.way(12, 1), 1 + 8);
        due("13: one and the same", x.way(11, 0), 0);
        due("13: one and the same", x.way(11, 1), 0);
        int[] bad = {3, 30, 33, 99, 100, 101, -1, -10, Integer.MIN_VALUE, Integer.MAX_VALUE};
        for (int de : bad) due("13: way(" + de + ", 0)", x.way(de, 0), BAD);
        due("13: what", x.way(1, 2), BAD);
        due("13: what", x.way(1, -1), BAD);
        x.mend(2, 2, 9);
        due("13: a mended screen", x.way(1, 1), 12);
    }

    /** Three at desks 0, 1, 2 side by side. */
    private static FortyDesks three() {
        FortyDesks x = new FortyDesks();
        for (int d = 0; d < 3; d++) x.desk(d);
        x.worker(502, 2, 20000);
        x.worker(303, 0, 20000);
        x.worker(141, 3, 20000);
        return x;
    }

    private static void level() {
        FortyDesks x = three();
        due("14: 1's words at 0's", x.level(1), 26);
        due("14: 0's words at 1's", x.level(10), 46);
        due("14: 2's words at 0's", x.level(2), 6);
        due("14: 0's words at 2's", x.level(20), 42);
        for (int hs : new int[] {0, 11, 22, 3, 30, 33, 99, 100, 110, -1, -12, Integer.MIN_VALUE, Integer.MAX_VALUE}) {
            due("14: level(" + hs + ")", x.level(hs), BAD);
        }
        x.mend(1, 0, 3);
        due("14: not below 0", x.level(1), 0);
        x.mend(1, 0, 99);
        x.set(1, 9);
        due("14: not above 99", x.level(1), 99);
        x.set(1, 1);
        due("14: CEILING", x.level(1), 96);
        x.mend(1, 0, 50);
        due("14: a mended voice", x.level(1), 47);
        x.sit(2, -1);
        due("14: the other one sits at none", x.level(2), NOT);
        due("14: one sits at none", x.level(20), NOT);
        due("14: BAD goes ahead of NOT", x.level(22), BAD);
        x.sit(1, 2);
        due("14: from where one sits", x.level(1), 43);
    }

    private static void hearsAndNet() {
        FortyDesks x = three();
        int[][] due = {{2, 0, 48}, {1, 108, 0}, {3, 0, 144}};
        for (int w = 0; w < 3; w++) {
            for (int what = 0; what < 3; what++) due("15: hears(" + w + ", " + what + ")", x.hears(w, what), due[w][what]);
        }
        due("16: net", x.net(), 48 - 108 + 144);
        x.set(0, 9);
        due("15: above MASK, by 1", x.hears(1, 0), 5);
        due("15: HARM by 1 more from each", x.hears(1, 1), 3 * (37 + 1));
        x.set(0, 60);
        due("15: nobody", x.hears(1, 0), 0);
        due("16: nobody", x.net(), 0);
        x.set(0, 10);
        x.sit(0, -1);
        due("15: at none", x.hears(0, 0), 0);
        due("15: at none", x.hears(0, 2), 0);
        due("15: one at none is not heard", x.hears(2, 0), 2);
        due("16: without 0", x.net(), 48);
        int[][] bad = {{3, 0}, {-1, 0}, {0, 3}, {0, -1}, {Integer.MIN_VALUE, 0}, {Integer.MAX_VALUE, 0}};
        for (int[] b : bad) due("15: hears(" + b[0] + ", " + b[1] + ")", x.hears(b[0], b[1]), BAD);
        due("16: nobody there", new FortyDesks().net(), 0);
        x.mend(2, 1, 9);
        x.mend(1, 1, 9);
        due("16: a mind that hears only what it needs", x.net(), 48);
    }

    private static void quiet() {
        FortyDesks x = three();
        due("17: all", x.quiet(0), 46);
        due("17: beyond 1", x.quiet(1), 42);
        due("17: beyond 2", x.quiet(2), 0);
        due("17: beyond 40", x.quiet(40), 0);
        due("17: below", x.quiet(-1), BAD);
        due("17: above", x.quiet(41), BAD);
        x.mend(0, 0, 64);
        due("17: 60 is enough", x.quiet(0), 60);
        x.mend(0, 0, 65);
        due("17: 60 is not enough", x.quiet(0), NOT);
        due("17: in thought", x.set(0, 10), 10);
        due("17: beyond 1", x.quiet(1), 57);
        x.sit(0, -1);
        due("17: those who sit", x.quiet(0), 26);
        due("17: nobody there", new FortyDesks().quiet(0), 0);
    }

    private static void higher() {
        FortyDesks x = new FortyDesks();
        x.desk(0);
        x.desk(2);
        x.worker(501, 0, 20000);
        x.worker(501, 0, 20000);
        due("18: none", x.higher(0), NOT);
        due("18: as it is", x.higher(1), -2 * (50 - 8 - 10));
        x.screen(505, 1);
        x.screen(1, 1);
        due("18: now", x.net(), -60);
        due("18: the second", x.higher(0), 1);
        due("18: NET", x.higher(1), -56);
        due("18: in thought", x.of(1, 21), 1);
        due("18: in thought", x.net(), -60);
        x.mend(1, 2, 9);
        due("18: 9 at most: like ones", x.higher(0), 0);
        due("18: 9 at most", x.higher(1), -2 * (50 - 8 - 18 - 10));
        due("18: what", x.higher(2), VOID);
        due("18: what", x.higher(-1), VOID);
        FortyDesks y = new FortyDesks();
        y.desk(0);
        y.desk(2);
        y.worker(501, 2, 20000);
        y.worker(501, 1, 20000);
        y.screen(1, 1);
        due("18: the only one, though it makes NET less", y.higher(0), 0);
        due("18: NET by it", y.higher(1), 6 * 28);
        y.screen(505, 1);
        due("18: one that does no harm", y.higher(0), 1);
        due("18: NET by that", y.higher(1), 6 * 30);
    }

    private static FortyDesks two(int voice) {
        FortyDesks x = new FortyDesks();
        x.desk(0);
        x.desk(1);
        x.worker(10 * voice + 5, 0, 20000);
        x.worker(10 * voice + 5, 0, 20000);
        return x;
    }

    private static void rest() {
        FortyDesks x = two(50);
        due("19: low, 54, 55, 55", x.rest(0, -1), 3);
        due("19: low", x.rest(0, 0), 55);
        due("19: high, 60, 55, 55", x.rest(1, -1), 3);
        due("19: high", x.rest(1, 1), 55);
        due("19: VOICE itself is as it was", x.of(0, 0), 50);
        x.worker(300, 0, 20000);
        due("19: at none: stays at VOICE", x.rest(0, 2), 30);
        due("19: at none: stays at 99", x.rest(1, 2), 99);
        due("19: at none: not heard", x.rest(1, 0), 55);
        int[][] bad = {{-1, 0}, {2, 0}, {0, 3}, {0, -2}, {1, Integer.MAX_VALUE}, {1, Integer.MIN_VALUE}};
        for (int[] b : bad) due("19: rest(" + b[0] + ", " + b[1] + ")", x.rest(b[0], b[1]), BAD);
        due("19: nobody there", new FortyDesks().rest(1, -1), 1);
        due("19: nobody there", new FortyDesks().rest(0, 0), BAD);
        FortyDesks alone = new FortyDesks();
        alone.desk(0);
        alone.worker(400, 0, 20000);
        due("19: alone", alone.rest(0, -1), 1);
        due("19: alone, from 99", alone.rest(1, -1), 2);
        due("19: alone, from 99", alone.rest(1, 0), 40);
    }

    private static void restOfLaws() {
        FortyDesks x = two(80);
        Check.law(x, "v>90?99");
        due("19: low stays low", x.rest(0, 0), 80);
        due("19: low stays low", x.rest(0, -1), 1);
        due("19: high stays high", x.rest(1, 0), 91);
        due("19: high stays high", x.rest(1, -1), 2);
        FortyDesks y = two(50);
        Check.law(y, "99*(v<60)");
        due("19: up and down", y.rest(0, -1), NOT);
        due("19: up and down", y.rest(0, 0), NOT);
        due("19: BAD goes ahead of NOT", y.rest(0, 2), BAD);
        FortyDesks last = Check.office("D304 D6 D406 D903 W126/277 W159/112 W159/776 W378/485 M7 (v*v+d*26)%83");
        due("19: the last round", last.rest(1, -1), 100);
        FortyDesks late = Check.office("D404 D502 D503 D501 W72/113 W448/52 W30/486 W63/749 M16 (v*96+d*21)%69");
        due("19: a round too late", late.rest(0, -1), NOT);
        FortyDesks z = two(95);
        Check.law(z, "99");
        due("19: 99 at most", z.rest(0, 0), 99);
        due("19: 99 at most", z.rest(0, -1), 2);
    }

    private static void hush() {
        due("20: nobody", new FortyDesks().hush(), NOT);
        FortyDesks x = new FortyDesks();
        for (int d = 0; d < 3; d++) x.desk(d);
        int[] voices = {20, 90, 30};
        for (int v : voices) x.worker(10 * v, 0, 20000);
        due("20: the loudest", x.hush(), 1);
        due("20: in thought", x.of(1, 0), 90);
        FortyDesks like = two(50);
        due("20: of like ones the first", like.hush(), 0);
        // 1 sits at none: hushing 0 leaves 1's 40; hushing 1 leaves 0's 30
        FortyDesks y = new FortyDesks();
        y.desk(0);
        y.worker(300, 0, 20000);
        y.worker(400, 0, 20000);
        due("20: one at none counts", y.hush(), 1);
        // by this law a voice of 0 alone is heard: hushing 0 or 1 leaves 50 + 99 / 8 and 45, hushing 2 leaves 50 and 50
        FortyDesks z = two(50);
        z.worker(450, 0, 20000);
        z.set(0, 0);
        Check.law(z, "v=0?99");
        due("20: a hushed one may still be heard", z.hush(), 2);
        // hushing 2 leaves 50 and 50, which go to 61 and back for ever: at 50 behind 100 rounds, at 61 behind an odd
        // number; hushing another one leaves 50 and 60 + 11, at rest
        FortyDesks never = new FortyDesks();
        for (int d = 0; d < 3; d++) never.desk(d);
        for (int v : new int[] {50, 50, 60}) never.worker(10 * v, 0, 20000);
        Check.law(never, "99*(v<60)*(v>0)");
        due("20: no rest", never.rest(0, -1), NOT);
        due("20: behind 100 rounds", never.hush(), 2);
    }
}
