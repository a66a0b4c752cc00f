/** Promises 1 to 12: the room, who and what is in it, and the law's text. */
public final class RoomTest {
    private static final int BAD = FortyDesks.BAD, NOT = FortyDesks.NOT, FULL = FortyDesks.FULL,
        STATE = FortyDesks.STATE, VOID = FortyDesks.VOID;
    private static final Check check = new Check();

    public static void main(String[] args) {
        newObject();
        room();
        desk();
        desks();
        screen();
        worker();
        sit();
        set();
        mend();
        of();
        feed();
        faults();
        laws();
        check.end("RoomTest");
    }

    private static void due(String call, long got, long want) {
        check.due(call, got, want);
    }

    private static void newObject() {
        FortyDesks x = new FortyDesks();
        for (int what = 0; what <= 6; what++) due("1: count(" + what + ") of a new object", x.count(what), 0);
        due("1: room at first", x.room(2020), 1212);
        due("1: MASK at first", x.set(0, 0), 10);
        due("1: CEILING at first", x.set(1, 0), 0);
        due("1: BOOTHS at first", x.set(2, 0), 0);
        due("1: no trace", x.trace(0), BAD);
        for (int s = 0; s < 6; s++) due("1: shelf " + s + " holds nothing", x.taken(s, 0), -11);
        due("1: two objects share nothing", new FortyDesks().room(404), 1212);
    }

    private static void room() {
        FortyDesks x = new FortyDesks();
        int[] bad = {0, 403, 304, 399, 421, 2104, 2021, 20020, 1200, 12, -404, -1212, Integer.MIN_VALUE, Integer.MAX_VALUE};
        for (int wd : bad) due("2: room(" + wd + ")", x.room(wd), BAD);
        due("2: room(404)", x.room(404), 1212);
        due("2: room(2004)", x.room(2004), 404);
        due("2: wide is the place from the left", x.desk(1903), 0);
        due("2: deep is the place from the front", x.desk(319), BAD);
        due("2: room with a desk", x.room(1212), STATE);
        due("2: BAD goes ahead of STATE", x.room(1), BAD);
        FortyDesks y = new FortyDesks();
        y.screen(0, 1);
        due("2: room with a screen", y.room(1212), STATE);
        FortyDesks z = new FortyDesks();
        z.worker(500, 0, 20000);
        due("2: workers don't hinder", z.room(1414), 1212);
        due("2: what it had", z.room(1414), 1414);
    }

    private static void desk() {
        FortyDesks x = new FortyDesks();
        int[] bad = {-1, -100, 12, 1200, 1212, 99, 100000, Integer.MIN_VALUE, Integer.MAX_VALUE};
        for (int xy : bad) due("3: desk(" + xy + ")", x.desk(xy), BAD);
        due("3: desk(1111)", x.desk(1111), 0);
        due("3: not free", x.desk(1111), BAD);
        due("3: a screen comes", x.screen(500, 3), 0);
        due("3: a screen is there", x.desk(500), BAD);
        for (int d = 1; d < 10; d++) due("3: desk " + d, x.desk(d), d);
        due("3: FULL", x.desk(10), FULL);
        due("3: BAD goes ahead of FULL", x.desk(1), BAD);
        due("3: ten", x.count(0), 10);
    }

    private static void desks() {
        FortyDesks x = new FortyDesks();
        due("4: a row", x.row(0, 0, 7), 1);
        int[] cells = {9, 1, 2, 3, 4, 1, 2};
        for (int i = 0; i < cells.length; i++) x.put(0, i, cells[i]);
        due("4: BAD: no such shelf", x.desks(-1, 0, 1), BAD);
        due("4: BAD: no such shelf", x.desks(6, 0, 1), BAD);
        due("4: BAD: n", x.desks(0, 0, 0), BAD);
        due("4: BAD: n", x.desks(0, 0, 11), BAD);
        due("4: missing", x.desks(1, 0, 5), 0);
        due("4: two of two", x.desks(0, 1, 2), 2);
        due("4: from the left, from the front", x.of(0, 10), 102);
        due("4: from the left, from the front", x.of(1, 10), 304);
        due("4: ends at a cell that is not free", x.desks(0, 1, 3), 0);
        due("4: ends within a two", x.desks(0, 6, 1), 0);
        due("4: three desks, then the row ends within a two", x.desks(0, 0, 10), 3);
        due("4: a place ahead of the row", x.desks(0, -1, 1), 0);
        due("4: a place behind the row", x.desks(0, 7, 1), 0);
        due("4: the last place of all", x.desks(0, Integer.MAX_VALUE, 10), 0);
        due("4: the first place of all", x.desks(0, Integer.MIN_VALUE, 10), 0);
        x.row(2, 1, 4);
        due("4: shorts", x.desks(2, 0, 1), -12);
        x.row(2, 4, 4);
        due("4: booleans", x.desks(2, 0, 1), -12);
        due("4: BAD goes ahead of -12", x.desks(2, 0, 0), BAD);
        x.body(0);
        x.keep(3, 0);
        due("4: a body", x.desks(3, 0, 1), -12);
        due("4: those that came", x.count(0), 5);
        desksToTheBrim();
    }

    private static void desksToTheBrim() {
        FortyDesks x = new FortyDesks();
        x.row(5, 0, 60);
        for (int i = 0; i < 30; i++) x.put(5, 2 * i + 1, i % 12);
        for (int i = 12; i < 30; i++) x.put(5, 2 * i, 1);
        due("4: eight", x.desks(5, 0, 8), 8);
        due("4: until FULL", x.desks(5, 16, 5), 2);
        due("4: FULL", x.desks(5, 24, 5), 0);
        FortyDesks y = new FortyDesks();
        y.row(0, 0, 4);
        y.put(0, 0, 1);
        y.put(0, 1, 100);
        due("4: a byte beyond the room does not run over into the next cell's", y.desks(0, 0, 1), 0);
        y.put(0, 1, 5);
        y.put(0, 2, -1);
        due("4: the one ahead of a wrong one came", y.desks(0, 0, 2), 1);
        due("4: where", y.of(0, 10), 105);
    }

    private static void screen() {
        FortyDesks x = new FortyDesks();
        x.desk(303);
        int[] bad = {-1, 12, 1200, 303, Integer.MIN_VALUE, Integer.MAX_VALUE};
        for (int xy : bad) due("5: screen(" + xy + ")", x.screen(xy, 5), BAD);
        due("5: height 0", x.screen(0, 0), BAD);
        due("5: height 10", x.screen(0, 10), BAD);
        due("5: height 1", x.screen(0, 1), 0);
        due("5: not free", x.screen(0, 2), BAD);
        for (int s = 1; s < 10; s++) due("5: screen " + s, x.screen(s, 9), s);
        due("5: FULL", x.screen(10, 9), FULL);
        due("5: BAD goes ahead of FULL", x.screen(9, 9), BAD);
        due("5: BAD goes ahead of FULL", x.screen(10, 0), BAD);
    }

    private static void worker() {
        FortyDesks x = new FortyDesks();
        int[][] bad = {{-1, 0, 20000}, {1000, 0, 20000}, {0, -1, 20000}, {0, 1024, 20000}, {0, 0, 9100}, {0, 0, 31000},
            {0, 0, 20101}, {0, 0, 20999}, {0, 0, -20000}, {0, 0, -1}, {0, 0, Integer.MIN_VALUE},
            {Integer.MIN_VALUE, 0, 20000}, {Integer.MAX_VALUE, 0, 20000}, {0, Integer.MIN_VALUE, 20000}};
        for (int[] b : bad) {
            due("6: worker(" + b[0] + ", " + b[1] + ", " + b[2] + ")", x.worker(b[0], b[1], b[2]), BAD);
        }
        due("6: nobody came", x.count(2), 0);
        x.desk(0);
        x.desk(1);
        due("6: the greatest", x.worker(999, 1023, 30100), 0);
        int[] most = {99, 9, 1023, 30, 100, 0};
        for (int what = 0; what < 6; what++) due("6: of(0, " + what + ")", x.of(0, what), most[what]);
        due("6: 0 moves to desk 1", x.sit(0, 1), 0);
        due("6: the least", x.worker(0, 0, 10000), 1);
        int[] least = {0, 0, 0, 10, 0, -1};
        for (int what = 0; what < 6; what++) due("6: desk 1 was taken: of(1, " + what + ")", x.of(1, what), least[what]);
        due("6: no desk 2", x.worker(0, 0, 10000), 2);
        due("6: none", x.of(2, 5), -1);
        x.desk(2);
        due("6: a desk that comes later changes nothing", x.of(2, 5), -1);
        for (int w = 3; w < 10; w++) due("6: worker " + w, x.worker(123, 0, 10000), w);
        due("6: FULL", x.worker(123, 0, 10000), FULL);
        due("6: BAD goes ahead of FULL", x.worker(1000, 0, 10000), BAD);
    }

    private static void sit() {
        FortyDesks x = new FortyDesks();
        x.desk(0);
        x.desk(1);
        x.worker(100, 0, 20000);
        x.worker(100, 0, 20000);
        due("7: no such worker", x.sit(2, 0), VOID);
        due("7: no such worker", x.sit(-1, 0), VOID);
        due("7: no such desk", x.sit(0, 2), VOID);
        due("7: no such desk", x.sit(0, -2), VOID);
        due("7: another one sits there", x.sit(0, 1), NOT);
        due("7: still where it sat", x.of(0, 5), 0);
        due("7: the same", x.sit(0, 0), 0);
        due("7: stands up", x.sit(0, -1), 0);
        due("7: none is never taken", x.sit(1, -1), 1);
        due("7: from none", x.sit(0, 1), -1);
        due("7: there", x.of(0, 5), 1);
    }

    private static void set() {
        FortyDesks x = new FortyDesks();
        int[] most = {60, 9, 9};
        int[] first = {10, 0, 0};
        for (int what = 0; what < 3; what++) {
            due("8: below", x.set(what, -1), BAD);
            due("8: above", x.set(what, most[what] + 1), BAD);
            due("8: set(" + what + ", the most)", x.set(what, most[what]), first[what]);
            due("8: set(" + what + ", 0)", x.set(what, 0), most[what]);
            due("8: set(" + what + ", 1)", x.set(what, 1), 0);
        }
        due("8: what", x.set(3, 1), BAD);
        due("8: what", x.set(-1, 1), BAD);
    }

    private static void mend() {
        FortyDesks x = new FortyDesks();
        due("9: no worker", x.mend(0, 0, 5), BAD);
        x.worker(505, 0, 20000);
        x.worker(404, 0, 20000);
        due("9: no screen", x.mend(0, 2, 5), BAD);
        x.screen(0, 4);
        int[][] bad = {{-1, 0, 5}, {2, 0, 5}, {2, 1, 5}, {0, -1, 5}, {0, 3, 5}, {0, 0, -1}, {0, 0, 100}, {0, 1, -1},
            {0, 1, 10}, {0, 2, 0}, {0, 2, 10}, {1, 2, 5}, {-1, 2, 5}};
        for (int[] b : bad) due("9: mend(" + b[0] + ", " + b[1] + ", " + b[2] + ")", x.mend(b[0], b[1], b[2]), BAD);
        due("9: nothing changed", x.count(4), 0);
        due("9: VOICE", x.mend(1, 0, 99), 40);
        due("9: VOICE", x.of(1, 0), 99);
        due("9: MIND", x.mend(1, 1, 0), 4);
        due("9: MIND", x.of(1, 1), 0);
        due("9: HEIGHT", x.mend(0, 2, 9), 4);
        due("9: HEIGHT", x.of(0, 21), 9);
        due("9: the other one is as it was", x.of(0, 0), 50);
        due("9: VOICE as it was", x.mend(1, 0, 99), 99);
        due("9: MIND as it was", x.mend(1, 1, 0), 0);
        due("9: HEIGHT as it was", x.mend(0, 2, 9), 9);
        due("9: three changes, as those that leave all as it was are none", x.count(4), 3);
    }

    private static void of() {
        FortyDesks x = new FortyDesks();
        x.desk(1104);
        x.screen(711, 6);
        x.worker(987, 654, 12034);
        int[][] told = {{0, 98}, {1, 7}, {2, 654}, {3, 12}, {4, 34}, {5, 0}, {10, 1104}, {20, 711}, {21, 6}};
        for (int[] t : told) {
            due("10: of(0, " + t[0] + ")", x.of(0, t[0]), t[1]);
            due("10: of(1, " + t[0] + ")", x.of(1, t[0]), VOID);
            due("10: of(-1, " + t[0] + ")", x.of(-1, t[0]), VOID);
        }
        for (int what : new int[] {-1, 6, 9, 11, 19, 22, 100, Integer.MIN_VALUE}) due("10: what", x.of(0, what), VOID);
    }

    private static void feed() {
        FortyDesks x = new FortyDesks();
        due("11: -1", x.feed(-1), BAD);
        due("11: 256", x.feed(256), BAD);
        due("11: 0", x.feed(0), 1);
        due("11: 255", x.feed(255), 2);
        due("11: count", x.count(3), 2);
        for (int i = 3; i <= 120; i++) due("11: byte " + i, x.feed('v'), i);
        due("11: FULL", x.feed('v'), FULL);
        due("11: BAD goes ahead of FULL", x.feed(300), BAD);
        due("11: a text that begins with byte 0", x.law(), -100);
        due("11: empty then", x.count(3), 0);
    }

    private static void faults() {
        Object[][] texts = {
            {"", 0}, {"v", -1}, {"v?", 2}, {"v?d", -1}, {"v?d?k", 3}, {"v;", 2}, {";v", 0}, {"v;;v", 2}, {"v;d;k?c", -1},
            {"1", -1}, {"1234", -1}, {"12345", 4}, {"0000", -1}, {"v1", 1}, {"1v", 1}, {"vv", 1}, {"v v", 1}, {"V", 0},
            {"v<d", -1}, {"v<d<k", 3}, {"v=d>k", 3}, {"(v<d)<k", -1}, {"v<d&k>c|1=2", -1}, {"v<", 2}, {"v<=d", 2},
            {"v+-d", -1}, {"v-!d", -1}, {"v+*d", 2}, {"+v", 0}, {"v|", 2}, {"v||d", 2}, {"v&&d", 2}, {"!", 1}, {"-", 1},
            {"()", 1}, {"(v", 2}, {"(v?d)", 2}, {"(v;d)", 2}, {"v)", 1}, {"(v))", 3}, {"((v)", 4},
            {"------v", -1}, {"-------v", 6}, {"!!!!!!!v", 6}, {"(!-(!-v))", -1}, {"(!-(!-(v)))", 6}, {"(!-(!--v))", 6},
            {"((((((v))))))", -1}, {"(((((((v)))))))", 6}, {"(((((-v)))))", -1}, {"((((((-v))))))", 6},
            {"-v-v-v-v-v-v-v-v-v", -1}, {"(v)+(v)+(v)+(v)+(v)+(v)+(v)+(v)", -1}, {"((((((v))))))-((((((v))))))", -1},
            {"-----v*------v", -1}, {"v-------v", -1}, {"v--------v", 8}, {"1?2;3?4;5", -1}, {"1?2;3?4;5?", 10},
            {"1|2?3|4", -1}, {"1?((((((v))))))", -1}, {"1?(((((((v)))))))", 8}, {"((((((v))))))?1", -1}, {"1;------v", -1},
            {"v%d/k*c", -1}, {"v%%d", 2}, {"v#d", 1}, {"a", 0}, {"v" + (char) 233, 1}, {"v" + (char) 0, 1},
        };
        for (Object[] t : texts) {
            FortyDesks x = new FortyDesks();
            int fault = (Integer) t[1];
            due("12: law " + t[0], Check.law(x, (String) t[0]), fault < 0 ? 1 : -100 - fault);
            due("12: the tape is empty", x.count(3), 0);
        }
        String long120 = "v" + "+1".repeat(59);
        due("12: 119 bytes", Check.law(new FortyDesks(), long120), 1);
        due("12: 120 bytes, too early", Check.law(new FortyDesks(), long120 + "+"), -220);
        due("12: 120 bytes", Check.law(new FortyDesks(), long120 + "2"), 1);
        due("12: 120 bytes of lines", Check.law(new FortyDesks(), "0;".repeat(59) + "11"), 1);
        due("12: 120 bytes of forks", Check.law(new FortyDesks(), "0?1;".repeat(29) + "0?12"), 1);
    }

    /** Two desks far 2 with a screen of 3 between them; VOICE 70 of worker 1; CEILING 4. */
    private static int levelBy(String law) {
        FortyDesks x = new FortyDesks();
        x.desk(0);
        x.desk(2);
        x.screen(1, 3);
        x.worker(10, 0, 20000);
        x.worker(700, 0, 20000);
        x.set(1, 4);
        if (!law.isEmpty()) due("12: law " + law, Check.law(x, law), 1);
        return x.level(1);
    }

    private static void laws() {
        Object[][] laws = {
            {"", 60}, {"v", 70}, {"d", 2}, {"k", 3}, {"c", 4}, {"v-4*d-2*k+c", 60}, {"7", 7}, {"0042", 42}, {"1000", 99},
            {"-1", 0}, {"v-71", 0}, {"v+29", 99}, {"v+30", 99}, {"1+2*3", 7}, {"(1+2)*3", 9}, {"20-5-3", 12},
            {"20/3/2", 3}, {"20%7%4", 2}, {"2*7/3", 4}, {"17%10*2", 14}, {"v/0", 0}, {"5+v%0", 5}, {"(0-7)/2+10", 7},
            {"(0-7)%4+10", 7}, {"-7/2+10", 7}, {"9--5", 14}, {"!v", 0}, {"!0*9", 9}, {"!!v+1", 2}, {"!(v<d)+5", 6},
            {"-!v+3", 3}, {"5|0", 1}, {"0|0", 0}, {"5&6", 1}, {"5&0", 0}, {"0|2&0", 0}, {"1|1&0", 1}, {"(1|1)&0", 0},
            {"3<4", 1}, {"4<4", 0}, {"4=4", 1}, {"4>3", 1}, {"3>4", 0}, {"1+1=2", 1}, {"(3<4)+8", 9}, {"2=2&3=3", 1},
            {"5", 5}, {"0?5;6", 6}, {"1?5;6", 5}, {"-1?5;6", 5}, {"0?5", 0}, {"0?5;0?6", 0}, {"0?5;k=3?7;8", 7},
            {"0;5", 0}, {"9;5", 9}, {"d>2?1;d=2?50;3", 50}, {"0|1?0|6;9", 1},
            {"v" + "+1".repeat(28) + "-0".repeat(31), 98}, {"-v+v" + "+1".repeat(58), 58}, {"v*0" + "+1".repeat(58) + "2", 69},
            {"9999*9999*21", 99}, {"9999*9999*22", 0}, {"9999*9999*22<0", 1}, {"9999*9999*9999+1", 0},
        };
        for (Object[] l : laws) due("12: level by " + l[0], levelBy((String) l[0]), (Integer) l[1]);
        FortyDesks x = new FortyDesks();
        x.desk(0);
        x.desk(1);
        x.worker(500, 0, 20000);
        x.worker(500, 0, 20000);
        due("12: without a text", x.level(1), 46);
        due("12: a text", Check.law(x, "v/2"), 1);
        due("12: by it", x.level(1), 25);
        due("12: a fault", Check.law(x, "v/2?"), -104);
        due("12: the law is as it was", x.level(1), 25);
        due("12: another text", Check.law(x, "v/5"), 1);
        due("12: by that", x.level(1), 10);
    }
}
