/** Forty desks in a room: who hears whom, where to sit, and what it costs. See README.md. */
public final class FortyDesks {
    public static final int BAD = -1, NOT = -2, FULL = -3, STATE = -5, VOID = -2000000000;

    private static final int MISSING = -11, OTHER_KIND = -12, NO_PLACE = -13, NEGATIVE_SIZE = -14;
    private static final int NOWHERE = -1;
    private static final int MOST = 10;
    private static final int LOUDEST = 99;

    private final Floor floor;
    private final Staff staff;
    private final Law soundLaw;
    private final Sound sound;
    private final Voices voices;
    private final Seating seating;
    private final Day day;
    private final Illness illness;
    private final Changes changes;
    private final Acts acts;
    private final Shelf[] shelves;

    public FortyDesks() {
        floor = new Floor();
        staff = new Staff();
        soundLaw = new Law();
        sound = new Sound(floor, staff, soundLaw);
        voices = new Voices(staff, sound);
        seating = new Seating(floor, staff, sound);
        day = new Day(staff, sound);
        illness = new Illness(floor, staff);
        changes = new Changes(floor, staff);
        acts = new Acts();
        shelves = new Shelf[6];
        for (int s = 0; s < shelves.length; s++) shelves[s] = new Shelf();
    }

    // ---- the room

    public int room(int wd) {
        int wide = wd / 100;
        int deep = wd % 100;
        if (!isWithin(wide, 4, 20) || !isWithin(deep, 4, 20)) return BAD;
        if (floor.desks > 0 || floor.screens > 0) return STATE;
        int before = 100 * floor.wide + floor.deep;
        floor.wide = wide;
        floor.deep = deep;
        return before;
    }

    public int desk(int xy) {
        if (xy < 0) return BAD;
        return floor.addDesk(xy / 100, xy % 100);
    }

    public int desks(int shelf, int i, int n) {
        if (!hasShelf(shelf) || !isWithin(n, 1, MOST)) return BAD;
        Shelf from = shelves[shelf];
        if (from.isEmpty()) return 0;
        if (from.holds != Shelf.BYTES) return OTHER_KIND;
        int came = 0;
        while (came < n) {
            // a long, for a place near the greatest int must not wrap to one that is there
            long left = (long) i + 2L * came;
            if (!from.hasPlace(left) || !from.hasPlace(left + 1)) break;
            int x = (int) from.cells[(int) left];
            int y = (int) from.cells[(int) left + 1];
            if (floor.addDesk(x, y) < 0) break;
            came++;
        }
        return came;
    }

    public int screen(int xy, int height) {
        if (xy < 0) return BAD;
        return floor.addScreen(xy / 100, xy % 100, height);
    }

    public int worker(int vm, int needs, int wt) {
        if (!isWithin(vm, 0, 999) || !isWithin(needs, 0, 1023)) return BAD;
        if (!isWithin(wt / 1000, 10, 30) || !isWithin(wt % 1000, 0, 100)) return BAD;
        if (staff.workers >= MOST) return FULL;
        return staff.join(vm, needs, wt, floor.desks);
    }

    public int sit(int worker, int desk) {
        if (!staff.has(worker)) return VOID;
        if (desk != NOWHERE && !floor.hasDesk(desk)) return VOID;
        int sitter = staff.sitterAt(desk);
        if (sitter != NOWHERE && sitter != worker) return NOT;
        int before = staff.seat[worker];
        staff.seat[worker] = desk;
        return before;
    }

    public int set(int what, int v) {
        if (v < 0) return BAD;
        if (what == 0 && v <= 60) return sound.changeMask(v);
        if (what == 1 && v <= 9) return sound.changeCeiling(v);
        if (what == 2 && v <= 9) return day.changeBooths(v);
        return BAD;
    }

    public int mend(int number, int what, int v) {
        if (!changes.isAllowed(number, what, v)) return BAD;
        return changes.make(number, what, v);
    }

    public int of(int number, int what) {
        if (what >= 0 && what <= 5) return staff.has(number) ? staff.tell(number, what) : VOID;
        if (what == 10 && floor.hasDesk(number)) return 100 * floor.deskX[number] + floor.deskY[number];
        if (what == 20 && floor.hasScreen(number)) return 100 * floor.screenX[number] + floor.screenY[number];
        if (what == 21 && floor.hasScreen(number)) return floor.height[number];
        return VOID;
    }

    public int feed(int letter) {
        if (!isWithin(letter, 0, 255)) return BAD;
        return soundLaw.addByte(letter);
    }

    public int law() {
        return soundLaw.takeTape();
    }

    // ---- sound

    public int way(int de, int what) {
        if (de < 0 || !isWithin(what, 0, 1)) return BAD;
        int one = de / 10;
        int other = de % 10;
        if (!floor.hasDesk(one) || !floor.hasDesk(other)) return BAD;
        return what == 0 ? floor.far(one, other) : floor.between(one, other);
    }

    public int level(int hs) {
        if (hs < 0) return BAD;
        int hearer = hs / 10;
        int speaker = hs % 10;
        if (!staff.has(hearer) || !staff.has(speaker) || hearer == speaker) return BAD;
        int here = staff.seat[hearer];
        int there = staff.seat[speaker];
        if (here == NOWHERE || there == NOWHERE) return NOT;
        return sound.strength(staff.voice[speaker], here, there);
    }

    public int hears(int worker, int what) {
        if (!staff.has(worker) || !isWithin(what, 0, 2)) return BAD;
        if (what == 0) return sound.clearBits(worker);
        int needs = staff.needs[worker];
        if (what == 1) return staff.mind[worker] * sound.loudOf(worker, ~needs);
        return Sound.GAIN * sound.loudOf(worker, needs);
    }

    public int net() {
        return sound.netOf(staff.seat);
    }

    public int quiet(int far) {
        if (!isWithin(far, 0, 40)) return BAD;
        int mask = sound.loudestBeyond(far);
        return mask <= 60 ? mask : NOT;
    }

    public int higher(int what) {
        if (!isWithin(what, 0, 1)) return VOID;
        if (floor.screens == 0) return what == 0 ? NOT : sound.netOf(staff.seat);
        int best = 0;
        int bestNet = sound.netWithHigher(0);
        for (int s = 1; s < floor.screens; s++) {
            int raised = sound.netWithHigher(s);
            if (raised > bestNet) {
                best = s;
                bestNet = raised;
            }
        }
        return what == 0 ? best : bestNet;
    }

    public int rest(int from, int worker) {
        if (!isWithin(from, 0, 1)) return BAD;
        if (worker != -1 && !staff.has(worker)) return BAD;
        int round = voices.settle(from == 1, NOWHERE);
        if (round == NOT || worker == -1) return round;
        return voices.now[worker];
    }

    public int hush() {
        return staff.workers == 0 ? NOT : voices.bestHushed();
    }

    // ---- seats

    public int seats(int worker) {
        if (worker != -1 && !staff.has(worker)) return VOID;
        if (staff.workers == 0 || staff.workers > 5) return VOID;
        if (floor.desks > 6 || floor.desks < staff.workers) return VOID;
        int most = seating.findBest();
        return worker == -1 ? most : seating.best[worker];
    }

    public int swaps(int worker) {
        if (worker != -1 && worker != -2 && !staff.has(worker)) return VOID;
        int made = seating.exchange();
        if (worker == -1) return made;
        if (worker == -2) return sound.netOf(seating.at);
        return seating.at[worker];
    }

    public int broken(int seed, int n, int worker) {
        if (!isWithin(n, 1, 100)) return BAD;
        if (worker != -1 && !staff.has(worker)) return BAD;
        int all = day.breakAll(seed, n, day.booths);
        return worker == -1 ? all : day.brokenMinutes[worker];
    }

    public int booths(int seed, int n, int most) {
        if (!isWithin(n, 1, 100) || !isWithin(most, 0, 1000)) return BAD;
        for (int booths = 0; booths <= 9; booths++) {
            if (day.breakAll(seed, n, booths) <= most) return booths;
        }
        return NOT;
    }

    public int mornings(int worker) {
        if (worker != -1 && !staff.has(worker)) return VOID;
        int morning = seating.comeUntilSettled();
        if (morning == NOT || worker == -1) return morning;
        return seating.at[worker];
    }

    public int heat(int what) {
        if (!isWithin(what, 0, 3)) return BAD;
        if (staff.workers == 0) return STATE;
        boolean fair = what >= 2;
        int degrees = staff.bestHeat(fair);
        return what % 2 == 0 ? degrees : staff.discomfort(degrees, fair);
    }

    public int ill(int worker, int rl, int what) {
        if (!staff.has(worker) || rl < 0 || !isWithin(what, 0, 1)) return BAD;
        int reach = rl / 10;
        int days = rl % 10;
        if (reach > 40 || days < 1) return BAD;
        illness.spread(worker, reach);
        return what == 0 ? illness.fallen() : illness.lastStart() + days - 1;
    }

    public int undo() {
        return changes.stepBack() ? changes.done : STATE;
    }

    public int redo() {
        return changes.stepOn() ? changes.kept - changes.done : STATE;
    }

    // ---- acts, shelves

    public int body(int kind) {
        if (!isWithin(kind, 0, Acts.KINDS - 1)) return BAD;
        return acts.add(kind);
    }

    public int act(int body, int act, int x) {
        return acts.begin(body, act, x);
    }

    public int trace(int i) {
        return acts.ranAt(i);
    }

    public int keep(int shelf, int body) {
        if (!hasShelf(shelf)) return BAD;
        if (body != -1 && !acts.has(body)) return BAD;
        if (body == -1) shelves[shelf].clear();
        else shelves[shelf].holdBody(body);
        return 1;
    }

    public int row(int shelf, int sort, int n) {
        if (!hasShelf(shelf) || !isWithin(sort, 0, 4) || n > Shelf.LONGEST) return BAD;
        if (n < 0) return NEGATIVE_SIZE;
        shelves[shelf].holdRow(sort, n);
        return 1;
    }

    public int put(int shelf, int i, long v) {
        int refusal = refusalAt(shelf, i);
        if (refusal != 0) return refusal;
        shelves[shelf].store(i, v);
        return 1;
    }

    public long element(int shelf, int i) {
        return refusalAt(shelf, i) != 0 ? Long.MIN_VALUE : shelves[shelf].cells[i];
    }

    public int shift(int shelf, int i, int other, int j, int n) {
        if (!hasShelf(shelf) || !hasShelf(other)) return BAD;
        Shelf from = shelves[shelf];
        Shelf to = shelves[other];
        if (from.isEmpty() || to.isEmpty()) return MISSING;
        if (!from.isRow() || from.holds != to.holds) return OTHER_KIND;
        if (!from.hasRange(i, n) || !to.hasRange(j, n)) return NO_PLACE;
        System.arraycopy(from.cells, i, to.cells, j, n);
        return n;
    }

    public int taken(int shelf, int k) {
        if (!hasShelf(shelf) || !isWithin(k, 0, Acts.KINDS - 1)) return BAD;
        Shelf from = shelves[shelf];
        if (from.isEmpty()) return MISSING;
        if (from.isRow() || !acts.has(from.body)) return OTHER_KIND;
        int kind = acts.kindOf[from.body];
        return Acts.isUnder(kind, k) ? kind : OTHER_KIND;
    }

    public int count(int what) {
        switch (what) {
            case 0: return floor.desks;
            case 1: return floor.screens;
            case 2: return staff.workers;
            case 3: return soundLaw.tapeLength;
            case 4: return changes.done;
            case 5: return acts.bodies;
            case 6: return acts.ran;
            default: return BAD;
        }
    }

    private boolean hasShelf(int shelf) {
        return shelf >= 0 && shelf < shelves.length;
    }

    /** 0 where element i of the shelf's row may be used. */
    private int refusalAt(int shelf, int i) {
        if (!hasShelf(shelf)) return BAD;
        Shelf at = shelves[shelf];
        if (at.isEmpty()) return MISSING;
        if (!at.isRow()) return OTHER_KIND;
        return at.hasPlace(i) ? 0 : NO_PLACE;
    }

    private static boolean isWithin(int v, int least, int most) {
        return v >= least && v <= most;
    }

    /** The cells with their desks and screens. */
    private static final class Floor {
        int wide = 12;
        int deep = 12;
        final int[] deskX = new int[MOST];
        final int[] deskY = new int[MOST];
        int desks;
        final int[] screenX = new int[MOST];
        final int[] screenY = new int[MOST];
        final int[] height = new int[MOST];
        int screens;
        /** Grows with all that may change a way between desks: what is worked out from it is then stale. */
        int changes;

        boolean hasDesk(int desk) {
            return desk >= 0 && desk < desks;
        }

        boolean hasScreen(int screen) {
            return screen >= 0 && screen < screens;
        }

        boolean isFree(int x, int y) {
            if (!isWithin(x, 0, wide - 1) || !isWithin(y, 0, deep - 1)) return false;
            for (int d = 0; d < desks; d++) {
                if (deskX[d] == x && deskY[d] == y) return false;
            }
            for (int s = 0; s < screens; s++) {
                if (screenX[s] == x && screenY[s] == y) return false;
            }
            return true;
        }

        int addDesk(int x, int y) {
            if (!isFree(x, y)) return BAD;
            if (desks >= MOST) return FULL;
            deskX[desks] = x;
            deskY[desks] = y;
            changes++;
            return desks++;
        }

        int addScreen(int x, int y, int high) {
            if (!isFree(x, y) || !isWithin(high, 1, 9)) return BAD;
            if (screens >= MOST) return FULL;
            screenX[screens] = x;
            screenY[screens] = y;
            height[screens] = high;
            changes++;
            return screens++;
        }

        void changeHeight(int screen, int high) {
            height[screen] = high;
            changes++;
        }

        int far(int one, int other) {
            return Math.abs(deskX[one] - deskX[other]) + Math.abs(deskY[one] - deskY[other]);
        }

        int between(int one, int other) {
            int left = Math.min(deskX[one], deskX[other]);
            int right = Math.max(deskX[one], deskX[other]);
            int front = Math.min(deskY[one], deskY[other]);
            int back = Math.max(deskY[one], deskY[other]);
            int sum = 0;
            for (int s = 0; s < screens; s++) {
                if (isWithin(screenX[s], left, right) && isWithin(screenY[s], front, back)) sum += height[s];
            }
            return sum;
        }
    }

    /** The workers, what they are like and where they sit. */
    private static final class Staff {
        final int[] voice = new int[MOST];
        final int[] mind = new int[MOST];
        final int[] needs = new int[MOST];
        final int[] wish = new int[MOST];
        final int[] talk = new int[MOST];
        final int[] seat = new int[MOST];
        int workers;

        boolean has(int worker) {
            return worker >= 0 && worker < workers;
        }

        int join(int vm, int whom, int wt, int desks) {
            int number = workers;
            voice[number] = vm / 10;
            mind[number] = vm % 10;
            needs[number] = whom;
            wish[number] = wt / 1000;
            talk[number] = wt % 1000;
            boolean sits = number < desks && sitterAt(number) == NOWHERE;
            seat[number] = sits ? number : NOWHERE;
            workers++;
            return number;
        }

        int sitterAt(int desk) {
            if (desk == NOWHERE) return NOWHERE;
            for (int w = 0; w < workers; w++) {
                if (seat[w] == desk) return w;
            }
            return NOWHERE;
        }

        boolean isNeeded(int hearer, int speaker) {
            return (needs[hearer] >> speaker & 1) == 1;
        }

        int tell(int worker, int what) {
            switch (what) {
                case 0: return voice[worker];
                case 1: return mind[worker];
                case 2: return needs[worker];
                case 3: return wish[worker];
                case 4: return talk[worker];
                default: return seat[worker];
            }
        }

        /** The greatest size of what a wish misses the degrees by, if fair; else the sum of all sizes. */
        int discomfort(int degrees, boolean fair) {
            int sum = 0;
            int most = 0;
            for (int w = 0; w < workers; w++) {
                int size = Math.abs(wish[w] - degrees);
                sum += size;
                most = Math.max(most, size);
            }
            return fair ? most : sum;
        }

        int bestHeat(boolean fair) {
            int best = 10;
            for (int degrees = 11; degrees <= 30; degrees++) {
                if (discomfort(degrees, fair) < discomfort(best, fair)) best = degrees;
            }
            return best;
        }
    }

    /** The tape and the law of sound that is read from it, kept as steps of a stack machine. */
    private static final class Law {
        private static final int LONGEST = 120;
        private static final int MOST_OPEN = 6;
        private static final int COMPARISON = 2;
        private static final int OPERAND = 5;
        private static final int END = -1;
        // a step is a sign (its low byte) and what belongs to it; these four are no signs of the text's own
        private static final int NUMBER = 1;
        private static final int NAME = 2;
        private static final int NEGATE = 3;
        private static final int ANSWER = 4;

        private final int[] tape = new int[LONGEST];
        int tapeLength;
        private int place;
        /** No text gives more steps than bytes, and one for its end. */
        private int[] steps = new int[LONGEST + 1];
        private int[] draft = new int[LONGEST + 1];
        private int stepCount;
        private int draftCount;
        private final int[] stack = new int[LONGEST + 1];
        private final int[] named = new int[4];
        int changes;

        int addByte(int letter) {
            if (tapeLength >= LONGEST) return FULL;
            tape[tapeLength] = letter;
            tapeLength++;
            return tapeLength;
        }

        int takeTape() {
            boolean good = readText();
            tapeLength = 0;
            if (!good) return -100 - place;
            int[] old = steps;
            steps = draft;
            draft = old;
            stepCount = draftCount;
            changes++;
            return 1;
        }

        private int next() {
            return place < tapeLength ? tape[place] : END;
        }

        private void write(int step) {
            if (draftCount >= draft.length) return;
            draft[draftCount] = step;
            draftCount++;
        }

        /** False: place is that of the fault. */
        private boolean readText() {
            place = 0;
            draftCount = 0;
            for (int line = 0; line < LONGEST; line++) {
                if (!readLine()) return false;
                if (next() == END) return true;
                if (next() != ';') return false;
                place++;
            }
            return false;
        }

        private boolean readLine() {
            if (!readPart(0, 0)) return false;
            if (next() != '?') {
                write(ANSWER);
                return true;
            }
            place++;
            int fork = draftCount;
            write('?');
            if (!readPart(0, 0)) return false;
            write(ANSWER);
            if (fork < draft.length) draft[fork] = '?' | draftCount << 8;
            return true;
        }

        /** Parts joined by the signs of a rank, 0 (the loosest) to 4. */
        private boolean readPart(int rank, int open) {
            if (rank >= OPERAND) return readOperand(open);
            if (!readPart(rank + 1, open)) return false;
            for (int more = 0; more < LONGEST; more++) {
                int sign = next();
                if (rankOf(sign) != rank) return true;
                place++;
                if (!readPart(rank + 1, open)) return false;
                write(sign);
                if (rank == COMPARISON) return true;
            }
            return false;
        }

        private static int rankOf(int sign) {
            switch (sign) {
                case '|': return 0;
                case '&': return 1;
                case '<': case '=': case '>': return COMPARISON;
                case '+': case '-': return 3;
                case '*': case '/': case '%': return 4;
                default: return OPERAND;
            }
        }

        private boolean readOperand(int open) {
            int sign = next();
            if (isDigit(sign)) return readNumber();
            int name = nameOf(sign);
            if (name >= 0) {
                place++;
                write(NAME | name << 8);
                return true;
            }
            if (sign != '(' && sign != '!' && sign != '-') return false;
            if (open >= MOST_OPEN) return false;
            place++;
            if (sign == '(') {
                if (!readPart(0, open + 1) || next() != ')') return false;
                place++;
                return true;
            }
            if (!readOperand(open + 1)) return false;
            write(sign == '-' ? NEGATE : sign);
            return true;
        }

        private boolean readNumber() {
            int value = 0;
            for (int digits = 0; digits < 4 && isDigit(next()); digits++) {
                value = 10 * value + next() - '0';
                place++;
            }
            write(NUMBER | value << 8);
            return true;
        }

        private static boolean isDigit(int sign) {
            return sign >= '0' && sign <= '9';
        }

        private static int nameOf(int sign) {
            switch (sign) {
                case 'v': return 0;
                case 'd': return 1;
                case 'k': return 2;
                case 'c': return 3;
                default: return -1;
            }
        }

        int value(int v, int d, int k, int c) {
            if (stepCount == 0) return v - 4 * d - 2 * k + c;
            named[0] = v;
            named[1] = d;
            named[2] = k;
            named[3] = c;
            int top = -1;
            for (int at = 0; at < stepCount; at++) {
                int sign = steps[at] & 255;
                int with = steps[at] >> 8;
                if (sign == NUMBER || sign == NAME) {
                    if (top + 1 >= stack.length) return 0;
                    top++;
                    stack[top] = sign == NUMBER ? with : named[with & 3];
                    continue;
                }
                if (top < 0) return 0;
                if (sign == ANSWER) return stack[top];
                if (sign == NEGATE) {
                    stack[top] = -stack[top];
                } else if (sign == '!') {
                    stack[top] = stack[top] == 0 ? 1 : 0;
                } else if (sign == '?') {
                    // to the step ahead of the next line's, for the loop goes on by one
                    if (stack[top] == 0) at = Math.max(at, with - 1);
                    top--;
                } else {
                    if (top < 1) return 0;
                    top--;
                    stack[top] = join(sign, stack[top], stack[top + 1]);
                }
            }
            return 0;
        }

        private static int join(int sign, int a, int b) {
            switch (sign) {
                case '|': return a != 0 || b != 0 ? 1 : 0;
                case '&': return a != 0 && b != 0 ? 1 : 0;
                case '<': return a < b ? 1 : 0;
                case '=': return a == b ? 1 : 0;
                case '>': return a > b ? 1 : 0;
                case '+': return a + b;
                case '-': return a - b;
                case '*': return a * b;
                case '/': return b == 0 ? 0 : a / b;
                default: return b == 0 ? 0 : a % b;
            }
        }
    }

    /** How strong words come from desk to desk, and what that does to who hears them. */
    private static final class Sound {
        static final int GAIN = 3;

        private final Floor floor;
        private final Staff staff;
        private final Law soundLaw;
        int mask = 10;
        private int ceiling;
        private int ceilingChanges;
        /**
         * Levels by pair of desks and voice, each with the stamp under which it was worked out:
         * voices at rest and exchanges ask for the same few thousands again and again.
         */
        private final int[] known = new int[MOST * (MOST - 1) / 2 * (LOUDEST + 1)];

        Sound(Floor floor, Staff staff, Law soundLaw) {
            this.floor = floor;
            this.staff = staff;
            this.soundLaw = soundLaw;
        }

        int changeMask(int v) {
            int before = mask;
            mask = v;
            return before;
        }

        int changeCeiling(int v) {
            int before = ceiling;
            ceiling = v;
            ceilingChanges++;
            return before;
        }

        /** LEVEL of a voice between two desks; 0, so never above the mask, where one sits at none. */
        int strength(int voice, int one, int other) {
            int low = Math.min(one, other);
            int high = Math.max(one, other);
            if (low == NOWHERE || low == high) return 0;
            int slot = (high * (high - 1) / 2 + low) * (LOUDEST + 1) + voice;
            if (slot < 0 || slot >= known.length) return 0;
            // each of these only grows, so the sum is new whenever one of them is; above 0, as nothing is known at first
            int stamp = 1 + floor.changes + soundLaw.changes + ceilingChanges;
            if (known[slot] >> 7 == stamp) return known[slot] & 127;
            int level = soundLaw.value(voice, floor.far(low, high), floor.between(low, high), ceiling);
            level = Math.max(0, Math.min(LOUDEST, level));
            known[slot] = stamp << 7 | level;
            return level;
        }

        /** What the speaker's words give to the hearer's gain less harm. */
        int worth(int hearer, int speaker, int here, int there) {
            int loud = strength(staff.voice[speaker], here, there) - mask;
            if (loud <= 0) return 0;
            return staff.isNeeded(hearer, speaker) ? GAIN * loud : -staff.mind[hearer] * loud;
        }

        int netOf(int[] seat) {
            int sum = 0;
            for (int w = 0; w < staff.workers; w++) {
                for (int u = 0; u < staff.workers; u++) {
                    if (u != w) sum += worth(w, u, seat[w], seat[u]);
                }
            }
            return sum;
        }

        int clearBits(int hearer) {
            int bits = 0;
            for (int u = 0; u < staff.workers; u++) {
                if (u == hearer) continue;
                if (strength(staff.voice[u], staff.seat[hearer], staff.seat[u]) > mask) bits |= 1 << u;
            }
            return bits;
        }

        /** The sum of LOUD of those among the bits whom one hears clear. */
        int loudOf(int hearer, int whom) {
            int sum = 0;
            for (int u = 0; u < staff.workers; u++) {
                if (u == hearer || (whom >> u & 1) == 0) continue;
                sum += Math.max(0, strength(staff.voice[u], staff.seat[hearer], staff.seat[u]) - mask);
            }
            return sum;
        }

        /** The greatest level between desks that are farther apart than told; 0 if there is none. */
        int loudestBeyond(int far) {
            int most = 0;
            for (int w = 0; w < staff.workers; w++) {
                for (int u = 0; u < staff.workers; u++) {
                    int here = staff.seat[w];
                    int there = staff.seat[u];
                    if (u == w || here == NOWHERE || there == NOWHERE) continue;
                    if (floor.far(here, there) > far) most = Math.max(most, strength(staff.voice[u], here, there));
                }
            }
            return most;
        }

        int netWithHigher(int screen) {
            int before = floor.height[screen];
            if (before >= 9) return netOf(staff.seat);
            floor.changeHeight(screen, before + 1);
            int raised = netOf(staff.seat);
            floor.changeHeight(screen, before);
            return raised;
        }
    }

    /** Voices raised against one another until they rest. */
    private static final class Voices {
        private static final int MOST_ROUNDS = 100;

        private final Staff staff;
        private final Sound sound;
        final int[] now = new int[MOST];
        private final int[] then = new int[MOST];

        Voices(Staff staff, Sound sound) {
            this.staff = staff;
            this.sound = sound;
        }

        /** The round that changed none, or NOT; the one hushed (NOWHERE: none) stays at 0. */
        int settle(boolean fromLoudest, int hushed) {
            for (int w = 0; w < staff.workers; w++) now[w] = fromLoudest ? LOUDEST : staff.voice[w];
            if (hushed != NOWHERE) now[hushed] = 0;
            for (int round = 1; round <= MOST_ROUNDS; round++) {
                if (!raiseAll(hushed)) return round;
            }
            return NOT;
        }

        private boolean raiseAll(int hushed) {
            boolean changed = false;
            for (int w = 0; w < staff.workers; w++) {
                boolean stays = w == hushed || staff.seat[w] == NOWHERE;
                then[w] = stays ? now[w] : raised(w);
                if (then[w] != now[w]) changed = true;
            }
            System.arraycopy(then, 0, now, 0, staff.workers);
            return changed;
        }

        private int raised(int worker) {
            int sum = 0;
            for (int u = 0; u < staff.workers; u++) {
                if (u == worker) continue;
                sum += Math.max(0, sound.strength(now[u], staff.seat[worker], staff.seat[u]) - sound.mask);
            }
            return Math.min(LOUDEST, staff.voice[worker] + sum / 8);
        }

        int bestHushed() {
            int best = NOWHERE;
            int least = 0;
            for (int w = 0; w < staff.workers; w++) {
                settle(false, w);
                // the hushed one's own voice is 0, so that the sum of all is that of the others
                int sum = 0;
                for (int u = 0; u < staff.workers; u++) sum += now[u];
                if (best == NOWHERE || sum < least) {
                    best = w;
                    least = sum;
                }
            }
            return best;
        }
    }

    /** Where all should, would or do come to sit, in thought. */
    private static final class Seating {
        private static final int MOST_EXCHANGES = 50;
        private static final int MOST_MORNINGS = 50;

        private final Floor floor;
        private final Staff staff;
        private final Sound sound;
        final int[] best = new int[MOST];
        private int bestNet;
        private boolean foundOne;
        final int[] at = new int[MOST];
        private final int[] dayAhead = new int[MOST];

        Seating(Floor floor, Staff staff, Sound sound) {
            this.floor = floor;
            this.staff = staff;
            this.sound = sound;
        }

        int findBest() {
            foundOne = false;
            tryFrom(0, 0);
            return bestNet;
        }

        /** Tries all desks for a worker and those behind, where those ahead are at their desks and make net so far. */
        private void tryFrom(int worker, int soFar) {
            if (worker >= staff.workers || worker >= MOST) {
                if (foundOne && soFar <= bestNet) return;
                foundOne = true;
                bestNet = soFar;
                System.arraycopy(at, 0, best, 0, staff.workers);
                return;
            }
            for (int d = 0; d < floor.desks; d++) {
                if (isTakenAhead(worker, d)) continue;
                at[worker] = d;
                int sum = soFar;
                for (int u = 0; u < worker; u++) {
                    sum += sound.worth(worker, u, d, at[u]) + sound.worth(u, worker, at[u], d);
                }
                tryFrom(worker + 1, sum);
            }
        }

        private boolean isTakenAhead(int worker, int desk) {
            for (int u = 0; u < worker; u++) {
                if (at[u] == desk) return true;
            }
            return false;
        }

        /** How many exchanges were made. */
        int exchange() {
            System.arraycopy(staff.seat, 0, at, 0, staff.workers);
            for (int made = 0; made < MOST_EXCHANGES; made++) {
                if (!exchangeOnce()) return made;
            }
            return MOST_EXCHANGES;
        }

        private boolean exchangeOnce() {
            int most = sound.netOf(at);
            int first = NOWHERE;
            int second = NOWHERE;
            for (int w = 0; w < staff.workers; w++) {
                for (int u = w + 1; u < staff.workers; u++) {
                    swapTwo(w, u);
                    int sum = sound.netOf(at);
                    swapTwo(w, u);
                    if (sum > most) {
                        most = sum;
                        first = w;
                        second = u;
                    }
                }
            }
            if (first == NOWHERE) return false;
            swapTwo(first, second);
            return true;
        }

        private void swapTwo(int one, int other) {
            int desk = at[one];
            at[one] = at[other];
            at[other] = desk;
        }

        /** The morning that left all as they were, or NOT. */
        int comeUntilSettled() {
            System.arraycopy(staff.seat, 0, at, 0, staff.workers);
            for (int morning = 1; morning <= MOST_MORNINGS; morning++) {
                if (!comeOnce()) return morning;
            }
            return NOT;
        }

        private boolean comeOnce() {
            System.arraycopy(at, 0, dayAhead, 0, staff.workers);
            boolean changed = false;
            for (int w = 0; w < staff.workers; w++) {
                at[w] = bestFreeDesk(w);
                if (at[w] != dayAhead[w]) changed = true;
            }
            return changed;
        }

        /** Those behind the worker have not come yet: at still holds where they sat on the day ahead. */
        private int bestFreeDesk(int worker) {
            int desk = NOWHERE;
            int most = 0;
            for (int d = 0; d < floor.desks; d++) {
                if (isTakenAhead(worker, d)) continue;
                int sum = 0;
                for (int u = 0; u < staff.workers; u++) {
                    if (u != worker && at[u] != d) sum += sound.worth(worker, u, d, at[u]);
                }
                if (desk == NOWHERE || sum > most) {
                    desk = d;
                    most = sum;
                }
            }
            return desk;
        }
    }

    /** A day of talk by draws. */
    private static final class Day {
        private final Staff staff;
        private final Sound sound;
        int booths;
        final int[] brokenMinutes = new int[MOST];
        private final int[] disturbers = new int[MOST];
        private int draw;

        Day(Staff staff, Sound sound) {
            this.staff = staff;
            this.sound = sound;
        }

        int changeBooths(int v) {
            int before = booths;
            booths = v;
            return before;
        }

        /** Broken minutes of all; each one's stay in brokenMinutes. */
        int breakAll(int seed, int minutes, int boothsThen) {
            for (int w = 0; w < staff.workers; w++) {
                brokenMinutes[w] = 0;
                disturbers[w] = sound.clearBits(w) & ~staff.needs[w];
            }
            draw = seed;
            int all = 0;
            for (int minute = 0; minute < minutes; minute++) {
                int heard = speakOpenly(boothsThen);
                for (int w = 0; w < staff.workers; w++) {
                    if ((disturbers[w] & heard) == 0) continue;
                    brokenMinutes[w]++;
                    all++;
                }
            }
            return all;
        }

        /** Those who speak in a minute and found no booth, as bits. */
        private int speakOpenly(int boothsThen) {
            int bits = 0;
            int speakers = 0;
            for (int w = 0; w < staff.workers; w++) {
                draw = draw * 1103515245 + 12345;
                if ((draw >>> 8) % 100 >= staff.talk[w]) continue;
                if (speakers >= boothsThen) bits |= 1 << w;
                speakers++;
            }
            return bits;
        }
    }

    /** Who falls ill after whom. */
    private static final class Illness {
        private static final int NEVER = -1;

        private final Floor floor;
        private final Staff staff;
        private final int[] firstDay = new int[MOST];

        Illness(Floor floor, Staff staff) {
            this.floor = floor;
            this.staff = staff;
        }

        /** All who are ever near one who is ill are so on that one's first ill day, so the length does not matter. */
        void spread(int worker, int reach) {
            for (int w = 0; w < staff.workers; w++) firstDay[w] = NEVER;
            firstDay[worker] = 0;
            for (int day = 0; day < MOST; day++) {
                for (int w = 0; w < staff.workers; w++) {
                    if (firstDay[w] == day) infectAround(w, reach);
                }
            }
        }

        private void infectAround(int worker, int reach) {
            int here = staff.seat[worker];
            if (here == NOWHERE) return;
            for (int u = 0; u < staff.workers; u++) {
                int there = staff.seat[u];
                if (firstDay[u] != NEVER || there == NOWHERE) continue;
                if (floor.far(here, there) <= reach) firstDay[u] = firstDay[worker] + 1;
            }
        }

        int fallen() {
            int sum = 0;
            for (int w = 0; w < staff.workers; w++) {
                if (firstDay[w] != NEVER) sum++;
            }
            return sum;
        }

        int lastStart() {
            int last = 0;
            for (int w = 0; w < staff.workers; w++) last = Math.max(last, firstDay[w]);
            return last;
        }
    }

    /** What was mended, so that it can be undone and done again. */
    private static final class Changes {
        private static final int MOST_KEPT = 40;
        private static final int VOICE = 0;
        private static final int MIND = 1;
        private static final int HEIGHT = 2;

        private final Floor floor;
        private final Staff staff;
        private final int[] number = new int[MOST_KEPT];
        private final int[] what = new int[MOST_KEPT];
        private final int[] before = new int[MOST_KEPT];
        private final int[] after = new int[MOST_KEPT];
        int kept;
        /** Of those kept the first ones, which may be undone; the others may be done again. */
        int done;

        Changes(Floor floor, Staff staff) {
            this.floor = floor;
            this.staff = staff;
        }

        boolean isAllowed(int whose, int which, int v) {
            switch (which) {
                case VOICE: return staff.has(whose) && isWithin(v, 0, LOUDEST);
                case MIND: return staff.has(whose) && isWithin(v, 0, 9);
                case HEIGHT: return floor.hasScreen(whose) && isWithin(v, 1, 9);
                default: return false;
            }
        }

        /** Makes a change that is allowed: what it was before. */
        int make(int whose, int which, int v) {
            int was = which == VOICE ? staff.voice[whose] : which == MIND ? staff.mind[whose] : floor.height[whose];
            // What stays as it was is no change: nothing to undo, and what may be done again still may.
            if (v == was) return was;
            if (done >= MOST_KEPT) dropOldest();
            number[done] = whose;
            what[done] = which;
            before[done] = was;
            after[done] = v;
            done++;
            kept = done;
            apply(whose, which, v);
            return was;
        }

        private void dropOldest() {
            int left = MOST_KEPT - 1;
            System.arraycopy(number, 1, number, 0, left);
            System.arraycopy(what, 1, what, 0, left);
            System.arraycopy(before, 1, before, 0, left);
            System.arraycopy(after, 1, after, 0, left);
            done = left;
        }

        private void apply(int whose, int which, int v) {
            if (which == VOICE) staff.voice[whose] = v;
            else if (which == MIND) staff.mind[whose] = v;
            else floor.changeHeight(whose, v);
        }

        boolean stepBack() {
            if (done == 0) return false;
            done--;
            apply(number[done], what[done], before[done]);
            return true;
        }

        boolean stepOn() {
            if (done >= kept) return false;
            apply(number[done], what[done], after[done]);
            done++;
            return true;
        }
    }

    /** Bodies of eight kinds, whose acts come from their own kind or from above. */
    private static final class Acts {
        static final int KINDS = 8;
        private static final int ACTS = 4;
        private static final int SPEAKS = 0;
        private static final int HEARS = 1;
        private static final int MINDS = 2;
        private static final int MOVES = 3;
        private static final int MOST_BODIES = 50;
        private static final int LONGEST_TRACE = 24;
        private static final int DEEPEST = 40;
        /** The kind above each kind; -1 above WORD. */
        private static final int[] ABOVE = {-1, 0, 0, 2, 1, 4, 0, 6};
        /** By kind, then act: the number of the body of the act that the kind has itself, or 0. */
        private static final int[] OWN = {
            1, 10, 11, 2,
            20, 0, 0, 0,
            0, 30, 0, 0,
            0, 41, 40, 0,
            0, 0, 0, 50,
            0, 0, 60, 61,
            70, 0, 0, 0,
            81, 80, 0, 0,
        };

        final int[] kindOf = new int[MOST_BODIES];
        int bodies;
        private final int[] traced = new int[LONGEST_TRACE];
        int ran;
        private int actor;

        boolean has(int body) {
            return body >= 0 && body < bodies;
        }

        int add(int kind) {
            if (bodies >= MOST_BODIES) return FULL;
            kindOf[bodies] = kind;
            return bodies++;
        }

        static boolean isUnder(int kind, int other) {
            int at = kind;
            for (int up = 0; up < KINDS && at >= 0; up++) {
                if (at == other) return true;
                at = ABOVE[at];
            }
            return false;
        }

        int begin(int body, int act, int x) {
            ran = 0;
            if (!has(body) || !isWithin(act, 0, ACTS - 1)) return 0;
            actor = body;
            return perform(act, x, kindOf[body], 0);
        }

        int ranAt(int i) {
            return i >= 0 && i < ran && i < LONGEST_TRACE ? traced[i] : BAD;
        }

        /** Runs the act's body of the first kind that has one, from a kind on upward. */
        private int perform(int act, int x, int from, int depth) {
            int kind = from;
            for (int up = 0; up < KINDS && kind >= 0 && OWN[kind * ACTS + act] == 0; up++) kind = ABOVE[kind];
            if (kind < 0 || depth > DEEPEST) return 0;
            int running = OWN[kind * ACTS + act];
            if (ran < LONGEST_TRACE) traced[ran] = running;
            ran++;
            return run(running, x, ABOVE[kind], depth + 1);
        }

        private int run(int running, int x, int above, int depth) {
            switch (running) {
                case 1: return x + actor;
                case 2: return own(HEARS, x, depth) - own(MINDS, 1, depth);
                case 10: return own(SPEAKS, x, depth) * 2;
                case 11: return x ^ actor;
                case 20: return perform(SPEAKS, x, above, depth) + 3;
                case 30: return -perform(HEARS, x, above, depth);
                case 40: return perform(MINDS, x, above, depth) * 3;
                case 41: return perform(HEARS, x + 1, above, depth);
                case 50: return perform(MOVES, x, above, depth) ^ 5;
                case 60: return perform(MINDS, x, above, depth) - own(SPEAKS, 2, depth);
                case 61: return perform(MOVES, x, above, depth) + 1;
                case 70: return perform(SPEAKS, x, above, depth) * 2;
                case 80: return perform(HEARS, x, above, depth) + own(MINDS, 2, depth);
                case 81: return perform(SPEAKS, x, above, depth) - 1;
                default: return 0;
            }
        }

        private int own(int act, int x, int depth) {
            return perform(act, x, kindOf[actor], depth);
        }
    }

    /** Nothing, a body, or a row of one sort, whose cells serve for every row that the shelf ever holds. */
    private static final class Shelf {
        static final int LONGEST = 60;
        static final int BYTES = 0;
        private static final int SHORTS = 1;
        private static final int INTS = 2;
        private static final int LONGS = 3;
        private static final int BODY = 5;
        private static final int NOTHING = -1;

        /** NOTHING, BODY, or the row's sort. */
        int holds = NOTHING;
        int body;
        private int size;
        final long[] cells = new long[LONGEST];

        boolean isEmpty() {
            return holds == NOTHING;
        }

        boolean isRow() {
            return holds != NOTHING && holds != BODY;
        }

        boolean hasPlace(long i) {
            return i >= 0 && i < size;
        }

        boolean hasRange(int i, int n) {
            return i >= 0 && n >= 0 && (long) i + n <= size;
        }

        void clear() {
            holds = NOTHING;
            size = 0;
        }

        void holdBody(int number) {
            holds = BODY;
            body = number;
            size = 0;
        }

        void holdRow(int sort, int n) {
            holds = sort;
            size = n;
            for (int i = 0; i < n && i < cells.length; i++) cells[i] = 0;
        }

        void store(int i, long v) {
            cells[i] = cut(v);
        }

        private long cut(long v) {
            switch (holds) {
                case BYTES: return (byte) v;
                case SHORTS: return (short) v;
                case INTS: return (int) v;
                case LONGS: return v;
                default: return v != 0 ? 1 : 0;
            }
        }
    }
}
