/** Promises 13 to 20 at their edges: the mask, the bounds of levels and voices, ten of each, nobody, and like ones. */
public final class EdgesOfSoundTest {
    private static final int BAD = FortyDesks.BAD, NOT = FortyDesks.NOT, VOID = FortyDesks.VOID;
    private static final Check check = new Check();
    /** Ten desks, ten screens and ten voices of a room of 20 by 20. */
    private static final int[] DESKS = {0, 1919, 1900, 19, 505, 506, 605, 1010, 911, 1203};
    private static final int[] SCREENS = {1, 100, 1819, 504, 606, 1009, 1111, 702, 1901, 915};
    private static final int[] VOICES = {99, 0, 50, 1, 98, 60, 75, 33, 80, 10};

    public static void main(String[] args) {
        ways();
        screensAtTheEdges();
        tenLevels();
        aboveTheMask();
        harmAndGain();
        needsOfNobody();
        atNone();
        quietAtTheEdges();
        quietOfEach();
        higherAtNine();
        higherOfTen();
        theEighth();
        atMost99();
        roundsOfRest();
        hushOfTen();
        neverStale();
        manyChangesBetween();
        check.end("EdgesOfSoundTest");
    }

    private static void due(String call, long got, long want) {
        check.due(call, got, want);
    }

    private static FortyDesks ten() {
        FortyDesks x = new FortyDesks();
        x.room(2020);
        for (int i = 0; i < 10; i++) {
            x.desk(DESKS[i]);
            x.screen(SCREENS[i], i % 9 + 1);
            x.worker(10 * VOICES[i] + i, 0, 20000);
        }
        return x;
    }

    private static int far(int one, int other) {
        return Math.abs(one / 100 - other / 100) + Math.abs(one % 100 - other % 100);
    }

    private static boolean spans(int one, int other, int at) {
        return Math.min(one, other) <= at && at <= Math.max(one, other);
    }

    private static int between(int one, int other) {
        int sum = 0;
        for (int s = 0; s < 10; s++) {
            boolean wide = spans(one / 100, other / 100, SCREENS[s] / 100), deep = spans(one % 100, other % 100, SCREENS[s] % 100);
            if (wide && deep) sum += s % 9 + 1;
        }
        return sum;
    }

    /** All pairs of ten desks, and what is beside them. */
    private static void ways() {
        FortyDesks x = ten();
        for (int de = -25; de <= 125; de++) {
            boolean good = de >= 0 && de <= 99;
            int one = good ? DESKS[de / 10] : 0, other = good ? DESKS[de % 10] : 0;
            due("13: way(" + de + ", 0)", x.way(de, 0), good ? far(one, other) : BAD);
            due("13: way(" + de + ", 1)", x.way(de, 1), good ? between(one, other) : BAD);
        }
        due("13: the farthest", x.way(1, 0), 38);
        for (int what = -3; what <= 4; what++) due("13: what " + what, x.way(1, what), what == 0 ? 38 : what == 1 ? 46 : BAD);
        FortyDesks alone = new FortyDesks();
        due("13: no desks", alone.way(0, 0), BAD);
        alone.desk(505);
        due("13: one and the same", alone.way(0, 0), 0);
        due("13: one and the same", alone.way(0, 1), 0);
        due("13: no other", alone.way(1, 0), BAD);
        due("13: no other", alone.way(10, 0), BAD);
    }

    /** "In the rectangle of cells that both span (edges, too)": desks at 404 and 707, and mirrored. */
    private static void screensAtTheEdges() {
        for (int xy = 0; xy <= 1111; xy++) {
            if (xy % 100 > 11 || xy == 404 || xy == 707) continue;
            FortyDesks x = new FortyDesks();
            x.desk(404);
            x.desk(707);
            x.screen(xy, 5);
            boolean within = xy / 100 >= 4 && xy / 100 <= 7 && xy % 100 >= 4 && xy % 100 <= 7;
            due("13: a screen at " + xy, x.way(1, 1), within ? 5 : 0);
            due("13: a screen at " + xy, x.way(10, 1), within ? 5 : 0);
            if (xy == 407 || xy == 704) continue;
            FortyDesks y = new FortyDesks();
            y.desk(407);
            y.desk(704);
            y.screen(xy, 5);
            due("13: mirrored, a screen at " + xy, y.way(1, 1), within ? 5 : 0);
        }
        FortyDesks x = new FortyDesks();
        x.desk(0);
        x.desk(11);
        for (int s = 1; s <= 10; s++) x.screen(s, 9);
        due("13: ten of nine", x.way(1, 1), 90);
        due("13: ten of nine, of one desk", x.way(0, 1), 0);
    }

    private static void tenLevels() {
        FortyDesks x = ten();
        for (int hs = -25; hs <= 125; hs++) {
            boolean good = hs >= 0 && hs <= 99 && hs / 10 != hs % 10;
            int here = good ? DESKS[hs / 10] : 0, there = good ? DESKS[hs % 10] : 0;
            int level = good ? VOICES[hs % 10] - 4 * far(here, there) - 2 * between(here, there) : 0;
            due("14: level(" + hs + ")", x.level(hs), good ? Math.max(0, Math.min(99, level)) : BAD);
        }
        for (int w = 0; w < 10; w++) x.sit(w, -1);
        for (int hs = 0; hs <= 99; hs++) due("14: none sits, level(" + hs + ")", x.level(hs), hs / 10 == hs % 10 ? BAD : NOT);
        x.sit(0, 0);
        due("14: the one who hears sits", x.level(9), NOT);
        due("14: the one who speaks sits", x.level(90), NOT);
        FortyDesks one = new FortyDesks();
        due("14: nobody", one.level(0), BAD);
        one.worker(500, 0, 20000);
        due("14: one and the same, at none", one.level(0), BAD);
        due("14: no other", one.level(1), BAD);
    }

    /** Two side by side who need whom they are told; each hears the other one by the law. */
    private static FortyDesks two(int mind, int needs, String law) {
        FortyDesks x = new FortyDesks();
        x.desk(0);
        x.desk(1);
        x.worker(500 + mind, needs, 20100);
        x.worker(500, 0, 20100);
        due("12: law " + law, Check.law(x, law), 1);
        return x;
    }

    /** "One hears another one CLEAR, if its LEVEL is above MASK: by how much: LOUD." */
    private static void aboveTheMask() {
        for (int mask = 0; mask <= 60; mask++) {
            for (int level = Math.max(0, mask - 1); level <= mask + 2; level++) {
                FortyDesks x = two(4, 0, String.valueOf(level));
                x.set(0, mask);
                int loud = Math.max(0, level - mask);
                String at = " at MASK " + mask + ", LEVEL " + level;
                due("15: CLEAR" + at, x.hears(0, 0), loud > 0 ? 2 : 0);
                due("15: HARM" + at, x.hears(0, 1), 4 * loud);
                due("15: GAIN" + at, x.hears(0, 2), 0);
                due("16: NET" + at, x.net(), -4 * loud);
                due("23: BROKEN" + at, x.broken(1, 10, 0), loud > 0 ? 10 : 0);
            }
        }
        FortyDesks x = two(9, 0, "99");
        x.set(0, 0);
        due("15: the most", x.hears(0, 1), 9 * 99);
        x.set(0, 60);
        due("15: above 60", x.hears(0, 1), 9 * 39);
    }

    /** "MIND times ..", "3 times .."; one's own bit among NEEDS does nothing. */
    private static void harmAndGain() {
        for (int mind = 0; mind <= 9; mind++) {
            for (int needs = 0; needs < 4; needs++) {
                FortyDesks x = two(mind, needs, "20");
                boolean needed = needs >= 2;
                String by = " with MIND " + mind + ", NEEDS " + needs;
                due("15: CLEAR" + by, x.hears(0, 0), 2);
                due("15: HARM" + by, x.hears(0, 1), needed ? 0 : 10 * mind);
                due("15: GAIN" + by, x.hears(0, 2), needed ? 30 : 0);
                due("16: NET" + by, x.net(), needed ? 30 : -10 * mind);
            }
        }
        FortyDesks x = ten();
        due("12: all hear all", Check.law(x, "v+1"), 1);
        int net = 0, all = 0;
        x.set(0, 0);
        for (int v : VOICES) all += Math.min(99, v + 1);
        for (int w = 0; w < 10; w++) {
            int others = all - Math.min(99, VOICES[w] + 1);
            due("15: whom " + w + " hears", x.hears(w, 0), 1023 - (1 << w));
            due("15: HARM of " + w, x.hears(w, 1), w * others);
            due("15: GAIN of " + w, x.hears(w, 2), 0);
            net -= w * others;
        }
        due("16: NET of ten", x.net(), net);
        for (int w = -3; w <= 12; w++) {
            for (int what = -2; what <= 4; what++) {
                if (w >= 0 && w <= 9 && what >= 0 && what <= 2) continue;
                due("15: hears(" + w + ", " + what + ")", x.hears(w, what), BAD);
            }
        }
    }

    /** NEEDS may name workers who are not there. */
    private static void needsOfNobody() {
        FortyDesks x = two(5, 1020, "33");
        x.set(0, 0);
        due("15: whom one hears", x.hears(0, 0), 2);
        due("15: nobody is needed", x.hears(0, 2), 0);
        due("15: the other one is not needed", x.hears(0, 1), 5 * 33);
        due("16: NET", x.net(), -5 * 33);
        due("21: SEATS", x.seats(-1), -5 * 33);
        FortyDesks all = two(5, 1023, "33");
        all.set(0, 0);
        due("16: all needed", all.net(), 3 * 33);
        due("21: all needed", all.seats(-1), 3 * 33);
        FortyDesks alone = new FortyDesks();
        alone.desk(0);
        alone.desk(1);
        alone.worker(999, 1023, 20100);
        Check.law(alone, "99");
        due("15: alone", alone.hears(0, 0), 0);
        due("16: alone", alone.net(), 0);
        due("21: alone", alone.seats(-1), 0);
        due("21: alone", alone.seats(0), 0);
    }

    /** "Both sit": one at none is not heard and hears nobody, by the least MASK and the loudest law, too. */
    private static void atNone() {
        for (int none = 0; none < 3; none++) {
            FortyDesks x = new FortyDesks();
            for (int d = 0; d < 3; d++) x.desk(d);
            for (int w = 0; w < 3; w++) x.worker(505, w == 2 ? 1 : 0, 20100);
            x.set(0, 0);
            Check.law(x, "99");
            x.sit(none, -1);
            for (int w = 0; w < 3; w++) {
                int heard = w == none ? 0 : 7 - (1 << w) - (1 << none);
                boolean needed = w == 2 && none == 1;
                due("15: " + none + " at none, " + w + " hears", x.hears(w, 0), heard);
                due("15: " + none + " at none, HARM of " + w, x.hears(w, 1), w == none || needed ? 0 : 5 * 99);
                due("15: " + none + " at none, GAIN of " + w, x.hears(w, 2), needed ? 3 * 99 : 0);
                due("19: " + none + " at none, voice of " + w, x.rest(0, w), w == none ? 50 : 50 + 99 / 8);
                due("23: " + none + " at none, " + w, x.broken(1, 1, w), w == none || needed ? 0 : 1);
            }
            due("16: " + none + " at none", x.net(), none == 1 ? 3 * 99 - 5 * 99 : -2 * 5 * 99);
        }
        FortyDesks all = two(5, 0, "99");
        all.set(0, 0);
        all.sit(0, -1);
        all.sit(1, -1);
        due("15: both at none", all.hears(0, 0), 0);
        due("16: both at none", all.net(), 0);
        due("17: both at none", all.quiet(0), 0);
        due("22: both at none", all.swaps(-1), 0);
        due("23: both at none", all.broken(1, 100, -1), 0);
    }

    /** "The least MASK (0 .. 60, in thought)"; "farther than a told FAR". */
    private static void quietAtTheEdges() {
        for (int level = 0; level <= 99; level++) {
            FortyDesks x = two(0, 0, String.valueOf(level));
            due("17: LEVEL " + level, x.quiet(0), level <= 60 ? level : NOT);
            due("17: no farther than 1", x.quiet(1), 0);
            due("8: MASK is as it was", x.set(0, 10), 10);
        }
        FortyDesks x = new FortyDesks();
        x.room(2020);
        x.desk(0);
        x.desk(1919);
        x.worker(0, 0, 20000);
        x.worker(0, 0, 20000);
        Check.law(x, "50");
        for (int far = -3; far <= 44; far++) due("17: quiet(" + far + ")", x.quiet(far), far < 0 || far > 40 ? BAD : far < 38 ? 50 : 0);
        due("17: MIN", x.quiet(Integer.MIN_VALUE), BAD);
        due("17: MAX", x.quiet(Integer.MAX_VALUE), BAD);
        due("17: by any MASK there is", x.set(0, 60), 10);
        due("17: by any MASK there is", x.quiet(0), 50);
    }

    /** Each of ten may be the one who hears, or who is heard. */
    private static void quietOfEach() {
        for (int w = 0; w < 10; w++) {
            for (int u = 0; u < 10; u++) {
                if (u == w) continue;
                FortyDesks x = new FortyDesks();
                for (int d = 0; d < 10; d++) x.desk(d);
                for (int i = 0; i < 10; i++) x.worker(i == u ? 400 : 0, 0, 20000);
                for (int i = 0; i < 10; i++) if (i != w && i != u) x.sit(i, -1);
                int far = Math.abs(u - w);
                due("17: " + w + " hears " + u, x.quiet(0), Math.max(0, 40 - 4 * far));
                due("17: " + w + " hears " + u + ", nearer", x.quiet(far - 1), Math.max(0, 40 - 4 * far));
                due("17: " + w + " hears " + u + ", no farther", x.quiet(far), 0);
            }
        }
    }

    /** "1 higher (9 at most, in thought)". */
    private static void higherAtNine() {
        for (int height = 1; height <= 9; height++) {
            FortyDesks x = new FortyDesks();
            x.desk(0);
            x.desk(2);
            x.screen(1, height);
            x.worker(601, 0, 20000);
            x.worker(601, 0, 20000);
            due("16: NET at HEIGHT " + height, x.net(), -2 * (60 - 8 - 2 * height - 10));
            due("18: HEIGHT " + height, x.higher(0), 0);
            due("18: NET by it", x.higher(1), -2 * (60 - 8 - 2 * Math.min(9, height + 1) - 10));
            due("10: it is as it was", x.of(0, 21), height);
            due("28: nothing to undo", x.undo(), FortyDesks.STATE);
        }
        for (int what = -3; what <= 4; what++) {
            FortyDesks none = new FortyDesks();
            due("18: no screen, higher(" + what + ")", none.higher(what), what == 0 ? NOT : what == 1 ? 0 : VOID);
        }
        due("18: MIN", ten().higher(Integer.MIN_VALUE), VOID);
        due("18: MAX", ten().higher(Integer.MAX_VALUE), VOID);
    }

    /** "Of like ones the first": of ten screens that do nothing 0, else the one that does; of two such the first. */
    private static void higherOfTen() {
        for (int best = 0; best < 10; best++) {
            for (int other = 0; other < 10; other++) {
                FortyDesks x = new FortyDesks();
                x.desk(0);
                x.desk(3);
                for (int s = 0; s < 10; s++) x.screen(s == best ? 1 : s == other ? 2 : 100 + s, 1);
                x.worker(601, 0, 20000);
                x.worker(601, 0, 20000);
                int two = best == other ? 1 : 2;
                due("18: " + best + " and " + other, x.higher(0), Math.min(best, other));
                due("18: NET by it", x.higher(1), -2 * (60 - 12 - 2 * two - 2 - 10));
            }
        }
        FortyDesks x = new FortyDesks();
        for (int s = 0; s < 10; s++) x.screen(s, 1);
        due("18: nobody there", x.higher(0), 0);
        due("18: nobody there", x.higher(1), 0);
    }

    /** "The eighth (cut) of the sum of LOUD." */
    private static void theEighth() {
        for (int loud = 0; loud <= 99; loud++) {
            FortyDesks x = two(0, 0, String.valueOf(loud));
            x.set(0, 0);
            due("19: LOUD " + loud, x.rest(0, 0), 50 + loud / 8);
            due("19: the round", x.rest(0, -1), loud < 8 ? 1 : 2);
            due("19: from 99", x.rest(1, 0), 50 + loud / 8);
            due("19: from 99, the round", x.rest(1, -1), 2);
        }
        // the sum is cut, not each: three of 5 make 15, so 1
        FortyDesks x = new FortyDesks();
        for (int d = 0; d < 4; d++) x.desk(d);
        for (int w = 0; w < 4; w++) x.worker(500, 0, 20000);
        x.set(0, 0);
        Check.law(x, "5");
        due("19: the sum is cut", x.rest(0, 3), 51);
        // nine of 99 make 891, so 111
        FortyDesks y = ten();
        y.set(0, 0);
        Check.law(y, "99");
        for (int w = 0; w < 10; w++) due("19: nine are heard by " + w, y.rest(0, w), 99);
    }

    /** "99 at most". */
    private static void atMost99() {
        for (int voice = 80; voice <= 99; voice++) {
            FortyDesks x = new FortyDesks();
            x.desk(0);
            x.desk(1);
            x.worker(10 * voice, 0, 20000);
            x.worker(10 * voice, 0, 20000);
            x.set(0, 0);
            Check.law(x, "80");
            int most = Math.min(99, voice + 10);
            due("19: VOICE " + voice, x.rest(0, 0), most);
            due("19: VOICE " + voice + " from 99", x.rest(1, 1), most);
            due("19: its round", x.rest(0, -1), voice == 99 ? 1 : 2);
            due("19: its round from 99", x.rest(1, -1), most == 99 ? 1 : 2);
        }
    }

    /** "Those who sit at none stay at VOICE (99)." "The first ROUND (1 .. 100) that changes none: how many; NOT." */
    private static void roundsOfRest() {
        due("19: nobody", new FortyDesks().rest(0, -1), 1);
        due("19: nobody from 99", new FortyDesks().rest(1, -1), 1);
        FortyDesks x = new FortyDesks();
        for (int w = 0; w < 10; w++) x.worker(10 * VOICES[w], 0, 20000);
        due("19: all at none", x.rest(0, -1), 1);
        due("19: all at none from 99", x.rest(1, -1), 1);
        for (int w = 0; w < 10; w++) {
            due("19: " + w + " at none", x.rest(0, w), VOICES[w]);
            due("19: " + w + " at none from 99", x.rest(1, w), 99);
        }
        for (int w = -3; w <= 12; w++) {
            if (w < -1 || w > 9) due("19: rest(0, " + w + ")", x.rest(0, w), BAD);
            for (int from = -2; from <= 3; from++) {
                if (from < 0 || from > 1) due("19: rest(" + from + ", " + w + ")", x.rest(from, w), BAD);
            }
        }
        FortyDesks alone = new FortyDesks();
        alone.desk(0);
        alone.worker(990, 0, 20000);
        due("19: at 99 already", alone.rest(1, -1), 1);
        due("19: one at none is not heard", roundsWithOneAtNone(), 50);
    }

    private static int roundsWithOneAtNone() {
        FortyDesks x = two(0, 0, "99");
        x.sit(1, -1);
        return x.rest(0, 0);
    }

    /** Each of ten may be the one to hush; of like ones the first. */
    private static void hushOfTen() {
        due("20: nobody", new FortyDesks().hush(), NOT);
        for (int loud = 0; loud < 10; loud++) {
            for (int other = 0; other < 10; other++) {
                FortyDesks x = new FortyDesks();
                for (int w = 0; w < 10; w++) x.worker(w == loud || w == other ? 900 : 890, 0, 20000);
                due("20: " + loud + " and " + other, x.hush(), Math.min(loud, other));
            }
        }
        FortyDesks like = new FortyDesks();
        for (int w = 0; w < 10; w++) like.worker(0, 0, 20000);
        due("20: all alike", like.hush(), 0);
        FortyDesks one = new FortyDesks();
        one.worker(500, 0, 20000);
        due("20: the only one", one.hush(), 0);
    }

    /** What was worked out by another law, ceiling, height or seat must not come back. */
    private static void neverStale() {
        String office = "desk(0) desk(2) desk(5) screen(1,3) worker(901,0,20000) worker(802,0,20000) worker(703,1,20000) "
            + "mend(0,2,4) mend(0,2,5) undo() ";
        String[] changes = {Told.fed("v-3*d-k+c") + "law()", Told.fed("v/2-k*k") + "law()", "set(1,5)", "set(1,0)", "mend(0,2,7)",
            "undo()", "redo()", "screen(3,2)", "screen(4,9)", "desk(101)", "higher(1)", "mend(1,0,77)", "sit(1,-1)", "sit(1,3)"};
        for (String a : changes) {
            for (String b : changes) {
                for (String c : changes) {
                    FortyDesks asked = Told.office(office), fresh = Told.office(office);
                    hear(asked);
                    for (String change : new String[] {a, b, c}) {
                        Told.calls(asked, change);
                        Told.calls(fresh, change);
                    }
                    check.dueTrue("14: stale behind " + a + ", " + b + ", " + c, hear(asked).equals(hear(fresh)));
                }
            }
        }
    }

    /** As many changes as there may be between two looks. */
    private static void manyChangesBetween() {
        for (int changes = 1; changes <= 480; changes++) {
            FortyDesks x = Told.office("desk(0) desk(1) worker(500,0,20000) worker(500,0,20000)");
            due("14: at first", x.level(1), 46);
            for (int i = 1; i <= changes; i++) x.set(1, 1 + i % 9);
            due("14: behind " + changes + " changes", x.level(1), 47 + changes % 9);
        }
    }

    private static String hear(FortyDesks x) {
        StringBuilder heard = new StringBuilder();
        for (int w = 0; w < 3; w++) for (int u = 0; u < 3; u++) heard.append(x.level(10 * w + u)).append(' ');
        return heard.append(x.net()).append(' ').append(x.rest(1, 0)).toString();
    }
}
