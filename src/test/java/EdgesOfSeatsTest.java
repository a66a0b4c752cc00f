/** Promises 21 to 29 at their edges: how many may sit, like ones, the last exchange, minute, booth, morning and change. */
public final class EdgesOfSeatsTest {
    private static final int BAD = FortyDesks.BAD, NOT = FortyDesks.NOT, STATE = FortyDesks.STATE, VOID = FortyDesks.VOID;
    private static final int MIN = Integer.MIN_VALUE, MAX = Integer.MAX_VALUE;
    private static final Check check = new Check();

    public static void main(String[] args) {
        seatsByNumbers();
        seatsOfLikeOnes();
        exchangesOfEachPair();
        exchangesOfLikePairs();
        exchangesThatGainNothing();
        fiftyExchanges();
        minutes();
        draws();
        boothsOfTen();
        boothsTold();
        morningsOfLikeDesks();
        morningsWithNoneFree();
        heatOfOne();
        heatOfTwo();
        heatOfTen();
        illAtTheEdges();
        illByTens();
        numbersOfWorkers();
        fortyChanges();
        fortyOfAllKinds();
        againUntilAnother();
        check.end("EdgesOfSeatsTest");
    }

    private static void due(String call, long got, long want) {
        check.due(call, got, want);
    }

    /** "STATE: no WORKERS, more than 5, more than 6 DESKS, or fewer DESKS than WORKERS." */
    private static void seatsByNumbers() {
        for (int workers = 0; workers <= 7; workers++) {
            for (int desks = 0; desks <= 8; desks++) {
                FortyDesks x = new FortyDesks();
                for (int d = 0; d < desks; d++) x.desk(100 * d);
                for (int w = 0; w < workers; w++) x.worker(0, 0, 20000);
                boolean may = workers > 0 && workers <= 5 && desks <= 6 && desks >= workers;
                String of = "21: " + workers + " workers, " + desks + " desks, ";
                due(of + "NET", x.seats(-1), may ? 0 : VOID);
                for (int w = -3; w <= 8; w++) {
                    if (w != -1) due(of + "seats(" + w + ")", x.seats(w), may && w >= 0 && w < workers ? w : VOID);
                }
                due(of + "MIN", x.seats(MIN), VOID);
                due(of + "MAX", x.seats(MAX), VOID);
            }
        }
    }

    /** "The first by rows of DESKS, WORKERS in their order": of two ways that are alike. */
    private static void seatsOfLikeOnes() {
        // desks 4 and 5 are side by side, all others out of hearing: 0 and 1 need each other
        FortyDesks x = new FortyDesks();
        x.room(2020);
        for (int xy : new int[] {0, 1900, 19, 1010, 1919, 1918}) x.desk(xy);
        for (int w = 0; w < 5; w++) x.worker(200, w == 0 ? 2 : w == 1 ? 1 : 0, 20000);
        due("21: NET", x.seats(-1), 2 * 3 * (20 - 4 - 10));
        int[] first = {4, 5, 0, 1, 2};
        for (int w = 0; w < 5; w++) due("21: seats(" + w + ")", x.seats(w), first[w]);
        due("21: in thought", x.of(0, 5), 0);
        // where all sit now does not matter
        for (int w = 0; w < 5; w++) x.sit(w, -1);
        for (int w = 0; w < 5; w++) due("21: from none, seats(" + w + ")", x.seats(w), first[w]);
    }

    /**
     * Desks of a room of 20 by 20: the speaker's in a corner, those told beside it, all others out of hearing of it and of
     * one another. The speaker alone is heard, and only one worker needs the speaker.
     */
    private static FortyDesks speaker(int speaker, int needy, int... near) {
        FortyDesks x = new FortyDesks();
        x.room(2020);
        int[] beside = {1, 100};
        for (int d = 0; d < 10; d++) {
            int xy = 409 + 100 * d + d % 2 * 10;
            if (d == speaker) xy = 0;
            for (int n = 0; n < near.length; n++) if (near[n] == d) xy = beside[n];
            x.desk(xy);
        }
        for (int w = 0; w < 10; w++) x.worker(w == speaker ? 150 : 0, w == needy ? 1 << speaker : 0, 20000);
        return x;
    }

    private static int other(int... than) {
        for (int w = 0; w < 10; w++) {
            boolean found = false;
            for (int t : than) if (t == w) found = true;
            if (!found) return w;
        }
        return -1;
    }

    /** Each pair of ten may be the one to exchange. */
    private static void exchangesOfEachPair() {
        for (int needy = 0; needy < 10; needy++) {
            for (int near = 0; near < 10; near++) {
                if (near == needy) continue;
                FortyDesks x = speaker(other(needy, near), needy, near);
                String of = "22: " + needy + " and " + near + ", ";
                due(of + "now", x.net(), 0);
                due(of + "how many", x.swaps(-1), 1);
                due(of + "NET", x.swaps(-2), 3 * (15 - 4 - 10));
                for (int w = 0; w < 10; w++) {
                    due(of + "swaps(" + w + ")", x.swaps(w), w == needy ? near : w == near ? needy : w);
                }
                for (int w : new int[] {-4, -3, 10, 11, MIN, MAX}) due(of + "swaps(" + w + ")", x.swaps(w), VOID);
            }
        }
        FortyDesks none = speaker(1, 5, 7);
        none.sit(5, -1);
        due("22: from none", none.swaps(-1), 1);
        due("22: from none", none.swaps(5), 7);
        due("22: to none", none.swaps(7), -1);
    }

    /** "Of like ones the first pair by the lesser, then the other". */
    private static void exchangesOfLikePairs() {
        for (int needy = 0; needy < 10; needy++) {
            for (int one = 0; one < 10; one++) {
                for (int another = 0; another < 10; another++) {
                    if (one == needy || another == needy || one == another) continue;
                    FortyDesks x = speaker(other(needy, one, another), needy, one, another);
                    int ofOne = 10 * Math.min(needy, one) + Math.max(needy, one);
                    int ofAnother = 10 * Math.min(needy, another) + Math.max(needy, another);
                    String of = "22: " + needy + " with " + one + " or " + another;
                    due(of, x.swaps(needy), ofOne < ofAnother ? one : another);
                    due(of + ", how many", x.swaps(-1), 1);
                }
            }
        }
    }

    /** "If it is greater than it is". */
    private static void exchangesThatGainNothing() {
        FortyDesks x = new FortyDesks();
        for (int d = 0; d < 10; d++) x.desk(d);
        for (int w = 0; w < 10; w++) x.worker(555, 0, 20000);
        due("22: all alike", x.swaps(-1), 0);
        due("22: all alike", x.swaps(-2), x.net());
        due("22: all alike", x.swaps(9), 9);
        FortyDesks one = new FortyDesks();
        one.worker(0, 0, 20000);
        due("22: one at none", one.swaps(-1), 0);
        due("22: one at none", one.swaps(0), -1);
        due("22: no pair", one.swaps(1), VOID);
        due("22: nobody", new FortyDesks().swaps(-1), 0);
    }

    /** "Again and again (50 at most)": offices that were searched for, as most come to rest within ten. */
    private static void fiftyExchanges() {
        FortyDesks fifty = Check.office("R2020 D808 D1610 D1602 D814 D1605 D1509 D12 D1803 D1012 D1506 S319/9 S113/2 S400/9"
            + " S1905/9 S303/2 S717/4 S1517/3 S1515/7 S1200/9 S1315/7 W228/897 W531/171 W478/55 W622/63 W133/205 W843/256"
            + " W199/827 W476/321 W695/561 W484/315 M6 (v*20+d*88+k*v*30)%89");
        due("22: fifty", fifty.swaps(-1), 50);
        sitAsExchanged(fifty);
        due("22: none is left", fifty.swaps(-1), 0);
        FortyDesks more = Check.office("R2020 D808 D1610 D1703 D1012 D1605 D1509 D1904 D1506 D12 D814 S1018/4 S113/2 S1917/4"
            + " S1102/7 S204/2 S1600/9 S816/9 S319/1 S715/5 S1702/4 W658/897 W531/169 W478/55 W622/63 W133/205 W843/256"
            + " W198/827 W476/321 W295/817 W483/827 M8 (v*20+d*88+k*v*30)%89");
        due("22: fifty at most", more.swaps(-1), 50);
        sitAsExchanged(more);
        due("22: two more were left", more.swaps(-1), 2);
        sitAsExchanged(more);
        due("22: none is left", more.swaps(-1), 0);
    }

    /** All sit as the exchanges would have them; NET is then what they would make it. */
    private static void sitAsExchanged(FortyDesks x) {
        int net = x.swaps(-2), before = x.net();
        int[] at = new int[10];
        for (int w = 0; w < 10; w++) at[w] = x.swaps(w);
        due("16: in thought", x.net(), before);
        for (int w = 0; w < 10; w++) x.sit(w, -1);
        for (int w = 0; w < 10; w++) due("7: free", x.sit(w, at[w]), -1);
        due("22: NET then", x.net(), net);
        check.dueTrue("22: NET is greater", net > before);
    }

    /** All speak always; none needs another one; all hear all. */
    private static FortyDesks speaking(int workers) {
        FortyDesks x = new FortyDesks();
        for (int d = 0; d < workers; d++) x.desk(100 * (d / 5) + d % 5);
        for (int w = 0; w < workers; w++) x.worker(990, 0, 20100);
        return x;
    }

    /** "A DAY of n MINUTES (1 .. 100)". */
    private static void minutes() {
        FortyDesks x = speaking(2);
        for (int n = -120; n <= 120; n++) {
            boolean good = n >= 1 && n <= 100;
            due("23: broken(5, " + n + ", -1)", x.broken(5, n, -1), good ? 2 * n : BAD);
            due("24: booths(5, " + n + ", 1000)", x.booths(5, n, 1000), good ? 0 : BAD);
        }
        for (int n : new int[] {MIN, MAX, 256 + 5}) {
            due("23: n " + n, speaking(2).broken(5, n, -1), BAD);
            due("24: n " + n, speaking(2).booths(5, n, 0), BAD);
        }
    }

    /** "One speaks, if (z >>> 8) % 100 is below TALK": at the draw itself one is silent, at one more one speaks. */
    private static void draws() {
        for (int seed : new int[] {0, 1, -1, 7, 99, 12345, -987654321, MIN, MIN + 1, MAX - 1, MAX}) {
            int z = seed * 1103515245 + 12345;
            int first = (z >>> 8) % 100;
            int second = (z * 1103515245 + 12345 >>> 8) % 100;
            for (int talk = 0; talk <= 100; talk++) {
                FortyDesks x = new FortyDesks();
                x.desk(0);
                x.desk(1);
                x.worker(990, 0, 20000 + talk);
                x.worker(990, 0, 20000 + talk);
                due("23: seed " + seed + ", TALK " + talk + ", 1 hears 0", x.broken(seed, 1, 1), first < talk ? 1 : 0);
                due("23: seed " + seed + ", TALK " + talk + ", 0 hears 1", x.broken(seed, 1, 0), second < talk ? 1 : 0);
            }
        }
        FortyDesks silent = new FortyDesks();
        silent.desk(0);
        silent.desk(1);
        silent.worker(990, 0, 20000);
        silent.worker(990, 0, 20000);
        for (int seed = 0; seed < 50; seed++) due("23: TALK 0", silent.broken(seed * 77777777, 100, -1), 0);
        for (int seed = 0; seed < 50; seed++) due("23: TALK 100", speaking(2).broken(seed * 77777777, 100, -1), 200);
    }

    /** "The first BOOTHS of those who speak are in booths." */
    private static void boothsOfTen() {
        for (int workers = 0; workers <= 10; workers++) {
            for (int booths = 0; booths <= 9; booths++) {
                FortyDesks x = speaking(workers);
                x.set(2, booths);
                int open = Math.max(0, workers - booths), all = 0;
                for (int w = 0; w < workers; w++) {
                    // one's own words break no minute of one's own
                    int broken = open >= 2 || open == 1 && w != workers - 1 ? 3 : 0;
                    due("23: " + booths + " booths, " + workers + " speak, " + w, x.broken(9, 3, w), broken);
                    all += broken;
                }
                due("23: " + booths + " booths, " + workers + " speak", x.broken(9, 3, -1), all);
            }
        }
        for (int w = -3; w <= 12; w++) {
            due("23: broken(9, 1, " + w + ")", speaking(10).broken(9, 1, w), w == -1 ? 10 : w >= 0 && w <= 9 ? 1 : BAD);
        }
    }

    /** "The least number of BOOTHS (0 .. 9) by which BROKEN of all is no more than told (0 .. 1000); NOT." */
    private static void boothsTold() {
        for (int workers = 0; workers <= 10; workers++) {
            FortyDesks x = speaking(workers);
            x.set(2, 4);
            int all = workers < 2 ? 0 : workers, last = workers - 1;
            for (int told = -2; told <= 13; told++) {
                long want = told < 0 ? BAD : told >= all ? 0 : told >= last ? last : workers <= 9 ? workers : NOT;
                due("24: " + workers + " speak, " + told + " told", x.booths(1, 1, told), want);
            }
            due("8: BOOTHS are as they were", x.set(2, 4), 4);
        }
        FortyDesks x = speaking(10);
        for (int told : new int[] {1001, 1002, MAX, -1, MIN}) due("24: told " + told, x.booths(1, 100, told), BAD);
        due("24: 1000 told, 1000 broken", x.booths(1, 100, 1000), 0);
        due("24: 999 told", x.booths(1, 100, 999), 9);
        due("24: 900 told", x.booths(1, 100, 900), 9);
        due("24: 899 told", x.booths(1, 100, 899), NOT);
    }

    /** "Of like ones the least". */
    private static void morningsOfLikeDesks() {
        for (int workers = 1; workers <= 10; workers++) {
            FortyDesks x = new FortyDesks();
            for (int d = 0; d < 10; d++) x.desk(d);
            for (int w = 0; w < workers; w++) x.worker(0, 0, 20000);
            due("25: all sit so already", x.mornings(-1), 1);
            for (int w = 0; w < workers; w++) x.sit(w, -1);
            for (int w = 0; w < workers; w++) x.sit(w, 9 - w);
            due("25: from the last desks", x.mornings(-1), 2);
            for (int w = 0; w < workers; w++) due("25: the least free one", x.mornings(w), w);
            for (int w = 0; w < workers; w++) due("25: in thought", x.of(w, 5), 9 - w);
            for (int w : new int[] {-3, -2, workers, 11, MIN, MAX}) due("25: mornings(" + w + ")", x.mornings(w), VOID);
        }
    }

    /** "None free: at none". */
    private static void morningsWithNoneFree() {
        for (int desks = 0; desks <= 10; desks++) {
            FortyDesks x = new FortyDesks();
            for (int w = 0; w < 10; w++) x.worker(0, 0, 20000);
            for (int d = 0; d < desks; d++) x.desk(d);
            due("25: " + desks + " desks", x.mornings(-1), desks == 0 ? 1 : 2);
            for (int w = 0; w < 10; w++) due("25: " + desks + " desks, " + w, x.mornings(w), w < desks ? w : -1);
        }
    }

    /** "The degrees (10 .. 30)". */
    private static void heatOfOne() {
        for (int wish = 10; wish <= 30; wish++) {
            FortyDesks x = new FortyDesks();
            x.worker(0, 0, 1000 * wish);
            for (int what = -3; what <= 6; what++) {
                long want = what < 0 || what > 3 ? BAD : what % 2 == 0 ? wish : 0;
                due("26: heat(" + what + ") of " + wish, x.heat(what), want);
            }
            due("26: MIN", x.heat(MIN), BAD);
            due("26: MAX", x.heat(MAX), BAD);
        }
        for (int what = -3; what <= 6; what++) {
            due("26: nobody, heat(" + what + ")", new FortyDesks().heat(what), what < 0 || what > 3 ? BAD : STATE);
        }
    }

    /** "Of like ones the least". */
    private static void heatOfTwo() {
        for (int a = 10; a <= 30; a++) {
            for (int b = 10; b <= 30; b++) {
                FortyDesks x = new FortyDesks();
                x.worker(0, 0, 1000 * a);
                x.worker(0, 0, 1000 * b);
                String of = "26: of " + a + " and " + b;
                due(of + ", HEAT", x.heat(0), Math.min(a, b));
                due(of + ", the sum", x.heat(1), Math.abs(a - b));
                due(of + ", FAIR", x.heat(2), (a + b) / 2);
                due(of + ", the size", x.heat(3), (Math.abs(a - b) + 1) / 2);
            }
        }
    }

    private static void heatOfTen() {
        FortyDesks x = new FortyDesks();
        for (int w = 0; w < 10; w++) x.worker(0, 0, w < 5 ? 10000 : 30000);
        due("26: five and five, HEAT", x.heat(0), 10);
        due("26: five and five, the sum", x.heat(1), 100);
        due("26: five and five, FAIR", x.heat(2), 20);
        due("26: five and five, the size", x.heat(3), 10);
        FortyDesks y = new FortyDesks();
        for (int w = 0; w < 10; w++) y.worker(0, 0, w < 4 ? 10000 : 30000);
        due("26: four and six, HEAT", y.heat(0), 30);
        due("26: four and six, the sum", y.heat(1), 80);
    }

    /** "For L (1 .. 9) days; no farther than r (0 .. 40)". */
    private static void illAtTheEdges() {
        FortyDesks x = new FortyDesks();
        x.room(2020);
        x.desk(0);
        x.desk(1919);
        x.worker(0, 0, 20000);
        x.worker(0, 0, 20000);
        int calls = 0;
        for (int rl = -30; rl <= 440; rl++) {
            boolean good = rl >= 0 && rl / 10 <= 40 && rl % 10 >= 1;
            boolean near = rl / 10 >= 38;
            due("27: ill(0, " + rl + ", 0)", x.ill(0, rl, 0), good ? near ? 2 : 1 : BAD);
            due("27: ill(1, " + rl + ", 1)", x.ill(1, rl, 1), good ? rl % 10 - 1 + (near ? 1 : 0) : BAD);
            calls += 2;
            if (calls < 490) continue;
            calls = 0;
            x = Told.office("room(2020) desk(0) desk(1919) worker(0,0,20000) worker(0,0,20000)");
        }
        for (int what = -3; what <= 4; what++) {
            due("27: what " + what, x.ill(0, 389, what), what == 0 ? 2 : what == 1 ? 9 : BAD);
        }
        for (int v : new int[] {MIN, MIN + 1, -391, -11, MAX - 1, MAX, 4001}) {
            due("27: rl " + v, x.ill(0, v, 0), BAD);
            due("27: worker " + v, x.ill(v, 11, 0), BAD);
            due("27: what " + v, x.ill(0, 11, v), BAD);
        }
    }

    /** One who was ill is never ill again; a day later each next one of ten falls ill; those at none stay well. */
    private static void illByTens() {
        FortyDesks x = new FortyDesks();
        for (int d = 0; d < 10; d++) x.desk(100 * d);
        for (int w = 0; w < 10; w++) x.worker(0, 0, 20000);
        for (int w = 0; w < 10; w++) {
            for (int length = 1; length <= 9; length++) {
                due("27: from " + w, x.ill(w, 10 + length, 0), 10);
                due("27: from " + w + " for " + length, x.ill(w, 10 + length, 1), Math.max(w, 9 - w) + length - 1);
            }
            due("27: alone", x.ill(w, 9, 0), 1);
            due("27: alone", x.ill(w, 9, 1), 8);
            due("27: by twos", x.ill(w, 21, 1), (Math.max(w, 9 - w) + 1) / 2);
        }
        x.sit(4, -1);
        due("27: the chain is broken", x.ill(0, 11, 0), 4);
        due("27: the chain is broken", x.ill(9, 11, 0), 5);
        due("27: one at none", x.ill(4, 409, 0), 1);
        due("27: one at none", x.ill(4, 409, 1), 8);
        due("27: no farther than 2", x.ill(0, 21, 0), 9);
        for (int w : new int[] {-2, -1, 10, 11}) due("27: ill(" + w + ", ..)", x.ill(w, 11, 0), BAD);
    }

    /** No worker beyond the last one, and none below the words -1 and -2. */
    private static void numbersOfWorkers() {
        for (int workers = 0; workers <= 10; workers++) {
            FortyDesks x = speaking(workers);
            String of = workers + " workers: ";
            due(of + "broken", x.broken(1, 1, workers), BAD);
            due(of + "mornings", x.mornings(workers), VOID);
            due(of + "swaps", x.swaps(workers), VOID);
            due(of + "seats", x.seats(workers), VOID);
            due(of + "ill", x.ill(workers, 11, 0), BAD);
            due(of + "rest", x.rest(0, workers), BAD);
            due(of + "hears", x.hears(workers, 0), BAD);
            if (workers == 0) continue;
            due(of + "the last of broken", x.broken(1, 1, workers - 1), workers > 1 ? 1 : 0);
            due(of + "the last of swaps", x.swaps(workers - 1), workers - 1);
            due(of + "the last of ill", x.ill(workers - 1, 11, 0), workers);
        }
    }

    /** "40 at most are kept." */
    private static void fortyChanges() {
        for (int made = 0; made <= 45; made++) {
            FortyDesks x = new FortyDesks();
            x.worker(0, 0, 20000);
            for (int v = 1; v <= made; v++) x.mend(0, 0, v);
            int kept = Math.min(40, made);
            due("39: of " + made, x.count(4), kept);
            for (int left = kept - 1; left >= 0; left--) {
                due("28: of " + made, x.undo(), left);
                due("10: of " + made, x.of(0, 0), made - kept + left);
            }
            due("28: no more of " + made, x.undo(), STATE);
            for (int left = kept - 1; left >= 0; left--) due("29: of " + made, x.redo(), left);
            due("29: no more of " + made, x.redo(), STATE);
            due("10: all again of " + made, x.of(0, 0), made);
            due("39: of " + made, x.count(4), kept);
        }
    }

    /** Those that are dropped and those that are kept, of several workers and screens. */
    private static void fortyOfAllKinds() {
        FortyDesks x = new FortyDesks();
        for (int i = 0; i < 10; i++) {
            x.worker(0, 0, 20000);
            x.screen(i, 1);
        }
        int[][] made = new int[55][4];
        for (int i = 0; i < 55; i++) {
            // no order among them that comes back when the first fifteen are dropped
            int number = (i * 7 + i / 5) % 10, what = (i * i + i / 4) % 3, was = x.of(number, what == 2 ? 21 : what);
            int v = what == 0 ? was + 11 : was + 1;
            due("9: change " + i, x.mend(number, what, v), was);
            made[i] = new int[] {number, what, was, v};
        }
        due("39: forty", x.count(4), 40);
        for (int i = 54; i >= 15; i--) {
            due("28: change " + i, x.undo(), i - 15);
            due("28: as ahead of change " + i, x.of(made[i][0], made[i][1] == 2 ? 21 : made[i][1]), made[i][2]);
        }
        due("28: the first fifteen stay", x.undo(), STATE);
        for (int i = 15; i < 55; i++) {
            due("29: change " + i, x.redo(), 54 - i);
            due("29: as behind change " + i, x.of(made[i][0], made[i][1] == 2 ? 21 : made[i][1]), made[i][3]);
        }
        due("29: no more", x.redo(), STATE);
    }

    /** "DONE AGAIN (as long as no other came behind)". */
    private static void againUntilAnother() {
        for (int undone = 0; undone <= 40; undone++) {
            FortyDesks x = new FortyDesks();
            x.worker(0, 0, 20000);
            x.screen(0, 1);
            for (int v = 1; v <= 40; v++) x.mend(0, 0, v);
            for (int i = 0; i < undone; i++) x.undo();
            due("28: " + undone + " undone", x.count(4), 40 - undone);
            due("9: refused", x.mend(0, 2, 10), BAD);
            due("9: no change", x.mend(0, 2, 1), 1);
            due("29: still " + undone, x.redo(), undone == 0 ? STATE : undone - 1);
            if (undone > 0) x.undo();
            due("9: another one", x.mend(0, 2, 9), 1);
            due("29: no more", x.redo(), STATE);
            due("39: with that", x.count(4), Math.min(40, 41 - undone));
            due("28: that", x.undo(), Math.min(39, 40 - undone));
            due("10: that", x.of(0, 21), 1);
            due("29: that again", x.redo(), 0);
            due("10: that again", x.of(0, 21), 9);
        }
    }
}
