import java.util.Random;

/** Random runs of calls, each answered by FortyDesks and by the Model; the seeds are fixed. */
public final class ModelTest {
    private static final int RUNS = 900;
    private static final int CALLS = 512;

    private final Random random;
    private final Check check;
    private final FortyDesks x = new FortyDesks();
    private final Model m = new Model();
    private final int run;
    /** Runs are of several tempers: few or many desks, and what they ask for most. */
    private final int temper;
    private final int side;
    private int calls;

    private ModelTest(int run, Check check) {
        this.run = run;
        this.check = check;
        random = new Random(run);
        temper = run % 7;
        side = 4 + random.nextInt(random.nextBoolean() ? 3 : 9);
    }

    public static void main(String[] args) {
        Check check = new Check();
        for (int run = 0; run < RUNS; run++) new ModelTest(run, check).go();
        check.end("ModelTest");
    }

    private void due(String name, long got, long want, long... with) {
        calls++;
        // the last few calls of a run may be one too many: what they answer is free
        if (calls > CALLS) return;
        check.due("run " + run + " call " + calls + ": " + name + java.util.Arrays.toString(with), got, want);
    }

    /** From least to most; now and then beside them, or anything. */
    private int in(int least, int most) {
        int r = random.nextInt(120);
        if (r == 0) return least - 1;
        if (r == 1) return most + 1;
        if (r == 2) return random.nextInt();
        if (r == 3) return new int[] {Integer.MIN_VALUE, Integer.MAX_VALUE, -1, -2, 0}[random.nextInt(5)];
        return least + random.nextInt(most - least + 1);
    }

    /** The number of one that is there, as a rule; from least on. */
    private int one(int least, int count) {
        return in(least, Math.max(least, m.count(count) - 1));
    }

    /** A cell, in a part of the room as wide as told. */
    private int cell(int side) {
        return in(0, side - 1) * 100 + in(0, side - 1);
    }

    private void go() {
        if (random.nextInt(3) > 0) callRoom();
        int shelf = random.nextInt(6);
        due("row", x.row(shelf, 0, 20), m.row(shelf, 0, 20), shelf);
        for (int i = 0; i < 20; i++) {
            int v = in(0, side);
            due("put", x.put(shelf, i, v), m.put(shelf, i, v), shelf, i, v);
        }
        if (random.nextInt(4) == 0) due("desks", x.desks(shelf, 1, 7), m.desks(shelf, 1, 7), shelf, 1, 7);
        if (temper != 5) due("set", x.set(0, 2), m.set(0, 2), 0, 2);
        int desks = temper == 0 ? 5 : temper == 1 ? 6 : 3 + random.nextInt(9);
        int workers = temper <= 1 ? 3 + random.nextInt(3) : 2 + random.nextInt(10);
        for (int i = 0; i < desks; i++) callDesk();
        for (int i = 0; i < random.nextInt(12); i++) callScreen();
        for (int i = 0; i < workers; i++) callWorker();
        if (random.nextInt(3) == 0) callLaw();
        while (calls < CALLS) callAny();
    }

    private void callAny() {
        int group = random.nextInt(20);
        if (temper == 4 && group < 12) group = 17;
        if (temper == 5 && group < 12) group = 18;
        if (temper == 6 && group < 6) group = 4;
        if (group < 4) callRoomPart();
        else if (group < 5) callLaw();
        else if (group < 10) callSound();
        else if (group < 16) callSeats();
        else if (group < 18) callActs();
        else callShelves();
    }

    private void callRoom() {
        int wd = in(4, 20) * 100 + in(4, 20);
        if (random.nextInt(3) == 0) wd = 404 + random.nextInt(3) * 101;
        due("room", x.room(wd), m.room(wd), wd);
    }

    private void callDesk() {
        int xy = cell(side);
        due("desk", x.desk(xy), m.desk(xy), xy);
    }

    private void callScreen() {
        int xy = cell(side), height = in(1, 9);
        due("screen", x.screen(xy, height), m.screen(xy, height), xy, height);
    }

    private void callWorker() {
        int vm = random.nextInt(4) == 0 ? in(0, 999) : in(30, 99) * 10 + in(0, 9);
        int needs = in(0, 1023), wt = in(10, 30) * 1000 + in(0, 100);
        due("worker", x.worker(vm, needs, wt), m.worker(vm, needs, wt), vm, needs, wt);
    }

    private void callRoomPart() {
        int a = one(0, 2), b = one(-1, 0);
        switch (random.nextInt(9)) {
            case 0: callDesk(); break;
            case 1: callScreen(); break;
            case 2: callWorker(); break;
            case 3: due("sit", x.sit(a, b), m.sit(a, b), a, b); break;
            case 4:
                int what = in(0, 2), v = what == 0 ? in(0, 60) : in(0, 9);
                due("set", x.set(what, v), m.set(what, v), what, v);
                break;
            case 5: callRoom(); break;
            case 6:
                int part = in(0, 2);
                for (int times = random.nextInt(20) == 0 ? 45 : 1; times > 0; times--) {
                    a = one(0, part == 2 ? 1 : 2);
                    int to = part == 0 ? in(0, 99) : in(1, 9);
                    if (random.nextInt(6) == 0) to = m.of(a, part == 2 ? 21 : part);
                    due("mend", x.mend(a, part, to), m.mend(a, part, to), a, part, to);
                }
                break;
            case 7: for (int times = random.nextInt(4); times > 0; times--) due("undo", x.undo(), m.undo()); break;
            default: for (int times = random.nextInt(4); times > 0; times--) due("redo", x.redo(), m.redo()); break;
        }
        int what = new int[] {0, 1, 2, 3, 4, 5, 5, 5, 10, 20, 21, 0, 1, 21, in(-1, 22)}[random.nextInt(15)];
        a = one(0, what < 10 ? 2 : what < 20 ? 0 : 1);
        due("of", x.of(a, what), m.of(a, what), a, what);
        int count = in(0, 6);
        due("count", x.count(count), m.count(count), count);
    }

    private void callLaw() {
        String text = line() + (random.nextInt(3) == 0 ? ";" + line() : "") + (random.nextInt(5) == 0 ? ";" + line() : "");
        StringBuilder changed = new StringBuilder(text.length() > 34 ? text.substring(0, 34) : text);
        String letters = "vdkc0123456789|&<=>+-*/%!()?; x";
        for (int times = random.nextInt(4) == 0 ? 1 + random.nextInt(2) : 0; times > 0; times--) {
            int at = random.nextInt(changed.length() + 1);
            char c = letters.charAt(random.nextInt(letters.length()));
            if (random.nextBoolean() || at == changed.length()) changed.insert(at, c);
            else changed.setCharAt(at, c);
        }
        for (int i = 0; i < changed.length(); i++) {
            int c = changed.charAt(i);
            due("feed", x.feed(c), m.feed(c), c);
        }
        due("law " + changed, x.law(), m.law());
        callSound();
    }

    private String line() {
        if (random.nextInt(3) > 0) {
            String near = "v-d*" + random.nextInt(5) + "+" + random.nextInt(60);
            if (random.nextBoolean()) near += "-k" + "*/%".charAt(random.nextInt(3)) + random.nextInt(4);
            return (random.nextInt(3) == 0 ? part(0, 1) + "?" : "") + near;
        }
        return random.nextInt(3) == 0 ? part(0, 2) + "?" + part(0, 3) : part(0, 4);
    }

    private String part(int rank, int size) {
        if (rank == 5) {
            int r = random.nextInt(size > 0 ? 9 : 6);
            if (r < 4) return random.nextInt(3) == 0 ? "v" : String.valueOf("vdkc".charAt(r));
            if (r < 6) return String.valueOf(random.nextInt(random.nextBoolean() ? 10 : 10000));
            if (r == 6) return "(" + part(0, size - 1) + ")";
            return (r == 7 ? "-" : "!") + part(5, size - 1);
        }
        String signs = new String[] {"|", "&", "<=>", "+-", "*/%"}[rank];
        String s = part(rank + 1, size);
        if (random.nextInt(rank < 3 ? 8 : 3) == 0) {
            s += signs.charAt(random.nextInt(signs.length())) + part(rank + 1, size - 1);
        }
        return s;
    }

    private void callSound() {
        int a = one(0, 2), what = in(0, 2), half = in(0, 1), one = one(-1, 2);
        int two = 10 * one(0, 2) + one(0, 2), ways = 10 * one(0, 0) + one(0, 0);
        switch (random.nextInt(9)) {
            case 0: due("way", x.way(ways, half), m.way(ways, half), ways, half); break;
            case 1: due("level", x.level(two), m.level(two), two); break;
            case 2: due("hears", x.hears(a, what), m.hears(a, what), a, what); break;
            case 3: due("net", x.net(), m.net()); break;
            case 4: int far = in(0, 40); due("quiet", x.quiet(far), m.quiet(far), far); break;
            case 5: due("higher", x.higher(half), m.higher(half), half); break;
            case 6: case 7: due("rest", x.rest(half, one), m.rest(half, one), half, one); break;
            default: due("hush", x.hush(), m.hush());
        }
    }

    private void callSeats() {
        int w = one(-1, 2), n = in(1, 100), seed = random.nextInt(), what = in(0, 3);
        switch (random.nextInt(7)) {
            case 0: due("seats", x.seats(w), m.seats(w), w); break;
            case 1: int s = one(-2, 2); due("swaps", x.swaps(s), m.swaps(s), s); break;
            case 2: due("broken", x.broken(seed, n, w), m.broken(seed, n, w), seed, n, w); break;
            case 3:
                int most = random.nextBoolean() ? in(0, 60) : in(0, 1000);
                due("booths", x.booths(seed, n, most), m.booths(seed, n, most), seed, n, most);
                break;
            case 4: due("mornings", x.mornings(w), m.mornings(w), w); break;
            case 5: due("heat", x.heat(what), m.heat(what), what); break;
            default:
                int rl = random.nextBoolean() ? in(0, 120) : in(0, 419), whole = in(0, 1), who = one(0, 2);
                due("ill", x.ill(who, rl, whole), m.ill(who, rl, whole), who, rl, whole);
        }
    }

    private void callActs() {
        int kind = in(0, 7);
        if (random.nextInt(3) == 0) due("body", x.body(kind), m.body(kind), kind);
        int b = one(0, 5), act = in(0, 3), v = random.nextBoolean() ? in(-9, 9) : random.nextInt();
        due("act", x.act(b, act, v), m.act(b, act, v), b, act, v);
        due("count", x.count(6), m.count(6), 6);
        int i = one(0, 6);
        due("trace", x.trace(i), m.trace(i), i);
    }

    private void callShelves() {
        int s = in(0, 5), o = random.nextInt(4) == 0 ? s : in(0, 5), sort = in(0, 4), n = random.nextBoolean() ? in(8, 16) : in(-1, 60);
        int i = in(0, 9), j = in(0, 9), b = one(-1, 5), k = in(0, 7);
        long v = random.nextInt(3) == 0 ? random.nextLong() : in(0, side);
        switch (random.nextInt(11)) {
            case 0: due("keep", x.keep(s, b), m.keep(s, b), s, b); break;
            case 1: case 2: sort = random.nextBoolean() ? 0 : sort; due("row", x.row(s, sort, n), m.row(s, sort, n), s, sort, n); break;
            case 3: case 4: case 5: due("put", x.put(s, i, v), m.put(s, i, v), s, i, v); break;
            case 6: due("element", x.element(s, i), m.element(s, i), s, i); break;
            case 7: case 8:
                n = random.nextInt(3) == 0 ? in(-1, 12) : in(0, 4);
                due("shift", x.shift(s, i, o, j, n), m.shift(s, i, o, j, n), s, i, o, j, n);
                break;
            case 9: due("taken", x.taken(s, k), m.taken(s, k), s, k); break;
            default:
                n = in(1, 10);
                due("desks", x.desks(s, i, n), m.desks(s, i, n), s, i, n);
        }
        for (int e = 0; e < 6; e++) due("element", x.element(s, e), m.element(s, e), s, e);
    }
}
