import java.util.ArrayList;
import java.util.HashMap;
import java.util.List;
import java.util.Map;

/**
 * The document once more, written without regard to speed, memory or LANGUAGE.md and in another way than
 * FortyDesks: laws are worked out on their text, faults are found by trying what could follow, acts are Java's own.
 */
final class Model {
    static final int BAD = -1, NOT = -2, FULL = -3, STATE = -5, VOID = -2000000000;

    static final class Thing { int x, y, height; }

    static final class Worker { int voice, mind, needs, wish, talk, desk; }

    private int wide = 12, deep = 12, mask = 10, ceiling = 0, booths = 0;
    private final List<Thing> desks = new ArrayList<>();
    private final List<Thing> screens = new ArrayList<>();
    private final List<Worker> workers = new ArrayList<>();
    private String tape = "";
    private String law = null;
    private final Map<String, Integer> worked = new HashMap<>();
    private final List<int[]> done = new ArrayList<>();
    private final List<int[]> undone = new ArrayList<>();
    private final List<Word> bodies = new ArrayList<>();
    private final List<Integer> trace = new ArrayList<>();
    private final Object[] shelves = new Object[6];

    // ---- the room

    int room(int wd) {
        if (wd < 0 || wd / 100 < 4 || wd / 100 > 20 || wd % 100 < 4 || wd % 100 > 20) return BAD;
        if (!desks.isEmpty() || !screens.isEmpty()) return STATE;
        int was = wide * 100 + deep;
        wide = wd / 100;
        deep = wd % 100;
        return was;
    }

    private boolean free(int x, int y) {
        if (x < 0 || y < 0 || x >= wide || y >= deep) return false;
        for (Thing t : desks) if (t.x == x && t.y == y) return false;
        for (Thing t : screens) if (t.x == x && t.y == y) return false;
        return true;
    }

    private int come(List<Thing> to, int x, int y, int height) {
        if (!free(x, y)) return BAD;
        if (to.size() == 10) return FULL;
        Thing t = new Thing();
        t.x = x;
        t.y = y;
        t.height = height;
        to.add(t);
        return to.size() - 1;
    }

    int desk(int xy) {
        return xy < 0 ? BAD : come(desks, xy / 100, xy % 100, 0);
    }

    int desks(int shelf, int i, int n) {
        if (shelf < 0 || shelf > 5 || n < 1 || n > 10) return BAD;
        if (shelves[shelf] != null && !(shelves[shelf] instanceof byte[])) return -12;
        byte[] row = (byte[]) shelves[shelf];
        int came = 0;
        try {
            for (; came < n; came++) {
                int x = row[i + 2 * came];
                int y = row[i + 2 * came + 1];
                if (come(desks, x, y, 0) < 0) break;
            }
        } catch (NullPointerException | ArrayIndexOutOfBoundsException ended) {
            return came;
        }
        return came;
    }

    int screen(int xy, int height) {
        if (xy < 0 || height < 1 || height > 9) return BAD;
        return come(screens, xy / 100, xy % 100, height);
    }

    int worker(int vm, int needs, int wt) {
        if (vm < 0 || vm > 999 || needs < 0 || needs > 1023) return BAD;
        if (wt < 10000 || wt > 30100 || wt % 1000 > 100) return BAD;
        if (workers.size() == 10) return FULL;
        Worker w = new Worker();
        w.voice = vm / 10;
        w.mind = vm % 10;
        w.needs = needs;
        w.wish = wt / 1000;
        w.talk = wt % 1000;
        int number = workers.size();
        w.desk = number < desks.size() ? number : -1;
        for (Worker other : workers) if (other.desk == number) w.desk = -1;
        workers.add(w);
        return number;
    }

    private boolean isWorker(int w) { return w >= 0 && w < workers.size(); }

    int sit(int worker, int desk) {
        if (!isWorker(worker) || desk < -1 || desk >= desks.size()) return VOID;
        for (int u = 0; u < workers.size(); u++) {
            if (u != worker && desk >= 0 && workers.get(u).desk == desk) return NOT;
        }
        int was = workers.get(worker).desk;
        workers.get(worker).desk = desk;
        return was;
    }

    int set(int what, int v) {
        int was;
        if (what == 0 && v >= 0 && v <= 60) { was = mask; mask = v; return was; }
        if (what == 1 && v >= 0 && v <= 9) { was = ceiling; ceiling = v; return was; }
        if (what == 2 && v >= 0 && v <= 9) { was = booths; booths = v; return was; }
        return BAD;
    }

    private int change(int number, int what, int v) {
        int was;
        if (what == 0) { was = workers.get(number).voice; workers.get(number).voice = v; }
        else if (what == 1) { was = workers.get(number).mind; workers.get(number).mind = v; }
        else { was = screens.get(number).height; screens.get(number).height = v; }
        return was;
    }

    int mend(int number, int what, int v) {
        if (number < 0 || what < 0 || what > 2) return BAD;
        if (number >= (what == 2 ? screens.size() : workers.size())) return BAD;
        if (v < (what == 2 ? 1 : 0) || v > (what == 0 ? 99 : 9)) return BAD;
        int was = change(number, what, v);
        if (was == v) return was;
        undone.clear();
        done.add(new int[] {number, what, was, v});
        if (done.size() > 40) done.remove(0);
        return was;
    }

    int undo() {
        if (done.isEmpty()) return STATE;
        int[] c = done.remove(done.size() - 1);
        change(c[0], c[1], c[2]);
        undone.add(c);
        return done.size();
    }

    int redo() {
        if (undone.isEmpty()) return STATE;
        int[] c = undone.remove(undone.size() - 1);
        change(c[0], c[1], c[3]);
        done.add(c);
        return undone.size();
    }

    int of(int number, int what) {
        if (number < 0) return VOID;
        if (what >= 0 && what <= 5) {
            if (!isWorker(number)) return VOID;
            Worker w = workers.get(number);
            return new int[] {w.voice, w.mind, w.needs, w.wish, w.talk, w.desk}[what];
        }
        if (what == 10 && number < desks.size()) return desks.get(number).x * 100 + desks.get(number).y;
        if (what == 20 && number < screens.size()) return screens.get(number).x * 100 + screens.get(number).y;
        if (what == 21 && number < screens.size()) return screens.get(number).height;
        return VOID;
    }

    // ---- the law

    int feed(int letter) {
        if (letter < 0 || letter > 255) return BAD;
        if (tape.length() == 120) return FULL;
        tape += (char) letter;
        return tape.length();
    }

    int law() {
        String text = tape;
        tape = "";
        for (int i = 0; i < text.length(); i++) {
            if (!goesOn(text.substring(0, i + 1))) return -100 - i;
        }
        if (!isText(text)) return -100 - text.length();
        law = text;
        worked.clear();
        return 1;
    }

    /** Whether some TEXT begins so: an operand may lack, and what is open must be closed. */
    private static boolean goesOn(String start) {
        StringBuilder closed = new StringBuilder();
        for (int j = 0; j <= 6; j++) {
            if (isText(start + closed) || isText(start + "1" + closed)) return true;
            closed.append(')');
        }
        return false;
    }

    private static boolean isText(String text) {
        for (String line : text.split(";", -1)) {
            int q = line.indexOf('?');
            if (q < 0 ? !isPart(line, 0, 0) : !isPart(line.substring(0, q), 0, 0) || !isPart(line.substring(q + 1), 0, 0)) {
                return false;
            }
        }
        return true;
    }

    private static final String[] SIGNS = {"|", "&", "<=>", "+-", "*/%"};

    /** Where the last sign of a rank stands outside of ( ), behind an operand; -1. */
    private static int lastSign(String s, int rank) {
        int open = 0;
        for (int i = s.length() - 1; i > 0; i--) {
            char c = s.charAt(i);
            if (c == ')') open++;
            if (c == '(') open--;
            boolean behindOperand = "0123456789vdkc)".indexOf(s.charAt(i - 1)) >= 0;
            if (open == 0 && SIGNS[rank].indexOf(c) >= 0 && behindOperand) return i;
        }
        return -1;
    }

    private static boolean isPart(String s, int rank, int open) {
        if (open > 6) return false;
        if (rank < 5) {
            int at = lastSign(s, rank);
            if (at < 0) return isPart(s, rank + 1, open);
            String left = s.substring(0, at);
            // a comparison has one sign: what stands ahead of it is of the next rank
            return isPart(left, rank == 2 ? 3 : rank, open) && isPart(s.substring(at + 1), rank + 1, open);
        }
        if (s.matches("[0-9]{1,4}|[vdkc]")) return true;
        if (s.startsWith("!") || s.startsWith("-")) return isPart(s.substring(1), 5, open + 1);
        if (!s.startsWith("(") || !s.endsWith(")") || s.length() < 3) return false;
        return isPart(s.substring(1, s.length() - 1), 0, open + 1);
    }

    private static int workOut(String s, int rank, int[] vdkc) {
        if (rank == 5) {
            char c = s.charAt(0);
            if (c == '(') return workOut(s.substring(1, s.length() - 1), 0, vdkc);
            if (c == '!') return workOut(s.substring(1), 5, vdkc) == 0 ? 1 : 0;
            if (c == '-') return -workOut(s.substring(1), 5, vdkc);
            int name = "vdkc".indexOf(c);
            return name >= 0 ? vdkc[name] : Integer.parseInt(s);
        }
        int at = lastSign(s, rank);
        if (at < 0) return workOut(s, rank + 1, vdkc);
        int a = workOut(s.substring(0, at), rank, vdkc);
        int b = workOut(s.substring(at + 1), rank + 1, vdkc);
        switch (s.charAt(at)) {
            case '|': return a != 0 | b != 0 ? 1 : 0;
            case '&': return a != 0 & b != 0 ? 1 : 0;
            case '<': return a < b ? 1 : 0;
            case '=': return a == b ? 1 : 0;
            case '>': return a > b ? 1 : 0;
            case '+': return a + b;
            case '-': return a - b;
            case '*': return a * b;
            case '/': return b == 0 ? 0 : a / b;
            default: return b == 0 ? 0 : a % b;
        }
    }

    private int byLaw(int... vdkc) {
        if (law == null) return vdkc[0] - 4 * vdkc[1] - 2 * vdkc[2] + vdkc[3];
        for (String line : law.split(";")) {
            int q = line.indexOf('?');
            if (q < 0) return workOut(line, 0, vdkc);
            if (workOut(line.substring(0, q), 0, vdkc) != 0) return workOut(line.substring(q + 1), 0, vdkc);
        }
        return 0;
    }

    // ---- sound

    private int far(int d, int e) {
        Thing a = desks.get(d), b = desks.get(e);
        return Math.abs(a.x - b.x) + Math.abs(a.y - b.y);
    }

    private int between(int d, int e) {
        Thing a = desks.get(d), b = desks.get(e);
        int sum = 0;
        for (int x = Math.min(a.x, b.x); x <= Math.max(a.x, b.x); x++) {
            for (int y = Math.min(a.y, b.y); y <= Math.max(a.y, b.y); y++) {
                for (Thing s : screens) if (s.x == x && s.y == y) sum += s.height;
            }
        }
        return sum;
    }

    int way(int de, int what) {
        if (de < 0 || de / 10 >= desks.size() || de % 10 >= desks.size() || what < 0 || what > 1) return BAD;
        return what == 0 ? far(de / 10, de % 10) : between(de / 10, de % 10);
    }

    private int levelOf(int voice, int at, int from) {
        String key = voice + " " + far(at, from) + " " + between(at, from) + " " + ceiling;
        Integer known = worked.get(key);
        if (known != null) return known;
        int level = byLaw(voice, far(at, from), between(at, from), ceiling);
        level = level < 0 ? 0 : level > 99 ? 99 : level;
        worked.put(key, level);
        return level;
    }

    int level(int hs) {
        if (hs < 0 || !isWorker(hs / 10) || !isWorker(hs % 10) || hs / 10 == hs % 10) return BAD;
        Worker h = workers.get(hs / 10), s = workers.get(hs % 10);
        if (h.desk < 0 || s.desk < 0) return NOT;
        return levelOf(s.voice, h.desk, s.desk);
    }

    private int[] sitting() {
        int[] at = new int[workers.size()];
        for (int w = 0; w < at.length; w++) at[w] = workers.get(w).desk;
        return at;
    }

    private int loud(int voice, int at, int from) {
        if (at < 0 || from < 0) return 0;
        return Math.max(0, levelOf(voice, at, from) - mask);
    }

    private int gainOrHarm(int w, int[] at, boolean gain) {
        int sum = 0;
        Worker me = workers.get(w);
        for (int u = 0; u < at.length; u++) {
            if (u == w || ((me.needs & 1 << u) != 0) != gain) continue;
            sum += loud(workers.get(u).voice, at[w], at[u]);
        }
        return gain ? 3 * sum : me.mind * sum;
    }

    int hears(int worker, int what) {
        if (!isWorker(worker) || what < 0 || what > 2) return BAD;
        int[] at = sitting();
        if (what > 0) return gainOrHarm(worker, at, what == 2);
        int bits = 0;
        for (int u = 0; u < at.length; u++) {
            if (u != worker && loud(workers.get(u).voice, at[worker], at[u]) > 0) bits += 1 << u;
        }
        return bits;
    }

    private int netOf(int[] at) {
        int sum = 0;
        for (int w = 0; w < at.length; w++) sum += gainOrHarm(w, at, true) - gainOrHarm(w, at, false);
        return sum;
    }

    int net() { return netOf(sitting()); }

    int quiet(int far) {
        if (far < 0 || far > 40) return BAD;
        int was = mask;
        int found = NOT;
        for (mask = 0; mask <= 60 && found == NOT; mask++) {
            boolean heard = false;
            int[] at = sitting();
            for (int w = 0; w < at.length; w++) {
                for (int u = 0; u < at.length; u++) {
                    if (u == w || at[w] < 0 || at[u] < 0 || far(at[w], at[u]) <= far) continue;
                    if (loud(workers.get(u).voice, at[w], at[u]) > 0) heard = true;
                }
            }
            if (!heard) found = mask;
        }
        mask = was;
        return found;
    }

    int higher(int what) {
        if (what < 0 || what > 1) return VOID;
        int best = NOT;
        int most = net();
        for (int s = 0; s < screens.size(); s++) {
            int was = screens.get(s).height;
            screens.get(s).height = Math.min(9, was + 1);
            int then = net();
            screens.get(s).height = was;
            if (best == NOT || then > most) { best = s; most = then; }
        }
        return what == 0 ? best : most;
    }

    /** The voices behind 100 rounds, or at rest, and the round behind them. */
    private int[] restFrom(int from, int hushed) {
        int n = workers.size();
        int[] now = new int[n + 1];
        for (int w = 0; w < n; w++) now[w] = w == hushed ? 0 : from == 1 ? 99 : workers.get(w).voice;
        now[n] = NOT;
        for (int round = 1; round <= 100; round++) {
            int[] next = now.clone();
            for (int w = 0; w < n; w++) {
                if (w == hushed || workers.get(w).desk < 0) continue;
                int sum = 0;
                for (int u = 0; u < n; u++) if (u != w) sum += loud(now[u], workers.get(w).desk, workers.get(u).desk);
                next[w] = Math.min(99, workers.get(w).voice + sum / 8);
            }
            boolean same = java.util.Arrays.equals(now, next);
            now = next;
            if (same) { now[n] = round; break; }
        }
        return now;
    }

    int rest(int from, int worker) {
        if (from < 0 || from > 1 || worker < -1 || worker >= workers.size()) return BAD;
        int[] then = restFrom(from, -1);
        int round = then[workers.size()];
        return round == NOT || worker == -1 ? round : then[worker];
    }

    int hush() {
        int best = NOT, least = Integer.MAX_VALUE;
        for (int w = 0; w < workers.size(); w++) {
            int[] then = restFrom(0, w);
            int sum = 0;
            for (int u = 0; u < workers.size(); u++) if (u != w) sum += then[u];
            if (sum < least) { least = sum; best = w; }
        }
        return best;
    }

    // ---- seats

    int seats(int worker) {
        int n = workers.size(), m = desks.size();
        if (worker < -1 || worker >= n || n == 0 || n > 5 || m > 6 || m < n) return VOID;
        int[] at = new int[n], best = null;
        int all = 1, most = 0;
        for (int w = 0; w < n; w++) all *= m;
        for (int code = 0; code < all; code++) {
            int left = code, used = 0;
            for (int w = n - 1; w >= 0; w--) { at[w] = left % m; left /= m; used |= 1 << at[w]; }
            if (Integer.bitCount(used) < n) continue;
            int then = netOf(at);
            if (best == null || then > most) { best = at.clone(); most = then; }
        }
        return worker == -1 ? most : best[worker];
    }

    int swaps(int worker) {
        if (worker < -2 || worker >= workers.size()) return VOID;
        int[] at = sitting();
        int made = 0;
        for (; made < 50; made++) {
            int[] best = null;
            int most = netOf(at);
            for (int w = 0; w < at.length; w++) {
                for (int u = w + 1; u < at.length; u++) {
                    int[] other = at.clone();
                    other[w] = at[u];
                    other[u] = at[w];
                    if (netOf(other) > most) { most = netOf(other); best = other; }
                }
            }
            if (best == null) break;
            at = best;
        }
        return worker == -1 ? made : worker == -2 ? netOf(at) : at[worker];
    }

    private int[] day(int seed, int n, int boothsThen) {
        int[] broken = new int[workers.size()];
        int[] at = sitting();
        int z = seed;
        for (int minute = 0; minute < n; minute++) {
            List<Integer> open = new ArrayList<>();
            int inBooths = 0;
            for (int w = 0; w < at.length; w++) {
                z = z * 1103515245 + 12345;
                if ((z >>> 8) % 100 >= workers.get(w).talk) continue;
                if (inBooths < boothsThen) inBooths++;
                else open.add(w);
            }
            for (int w = 0; w < at.length; w++) {
                boolean breaks = false;
                for (int u : open) {
                    boolean needed = (workers.get(w).needs >> u) % 2 == 1;
                    if (u != w && !needed && loud(workers.get(u).voice, at[w], at[u]) > 0) breaks = true;
                }
                if (breaks) broken[w]++;
            }
        }
        return broken;
    }

    private static int sum(int[] all) {
        int sum = 0;
        for (int v : all) sum += v;
        return sum;
    }

    int broken(int seed, int n, int worker) {
        if (n < 1 || n > 100 || worker < -1 || worker >= workers.size()) return BAD;
        int[] broken = day(seed, n, booths);
        return worker == -1 ? sum(broken) : broken[worker];
    }

    int booths(int seed, int n, int most) {
        if (n < 1 || n > 100 || most < 0 || most > 1000) return BAD;
        for (int b = 0; b <= 9; b++) if (sum(day(seed, n, b)) <= most) return b;
        return NOT;
    }

    int mornings(int worker) {
        if (worker < -1 || worker >= workers.size()) return VOID;
        int[] before = sitting();
        for (int morning = 1; morning <= 50; morning++) {
            int[] today = new int[before.length];
            for (int w = 0; w < today.length; w++) {
                int best = -1, most = 0;
                for (int d = 0; d < desks.size(); d++) {
                    boolean taken = false;
                    int[] at = before.clone();
                    for (int u = 0; u < at.length; u++) {
                        if (u < w) at[u] = today[u];
                        if (u < w && today[u] == d) taken = true;
                        if (u > w && before[u] == d) at[u] = -1;
                    }
                    if (taken) continue;
                    at[w] = d;
                    int own = gainOrHarm(w, at, true) - gainOrHarm(w, at, false);
                    if (best < 0 || own > most) { best = d; most = own; }
                }
                today[w] = best;
            }
            if (java.util.Arrays.equals(today, before)) return worker == -1 ? morning : today[worker];
            before = today;
        }
        return NOT;
    }

    int heat(int what) {
        if (what < 0 || what > 3) return BAD;
        if (workers.isEmpty()) return STATE;
        int best = 0, least = Integer.MAX_VALUE;
        for (int t = 30; t >= 10; t--) {
            int sum = 0, greatest = 0;
            for (Worker w : workers) {
                sum += Math.abs(w.wish - t);
                greatest = Math.max(greatest, Math.abs(w.wish - t));
            }
            int v = what < 2 ? sum : greatest;
            if (v <= least) { least = v; best = t; }
        }
        return what % 2 == 0 ? best : least;
    }

    int ill(int worker, int rl, int what) {
        if (!isWorker(worker) || rl < 0 || rl / 10 > 40 || rl % 10 == 0 || what < 0 || what > 1) return BAD;
        int r = rl / 10, length = rl % 10, n = workers.size(), last = 0, fallen = 1;
        int[] from = new int[n];
        java.util.Arrays.fill(from, Integer.MAX_VALUE);
        from[worker] = 0;
        for (int day = 0; day < 200; day++) {
            for (int w = 0; w < n; w++) {
                if (from[w] > day || day >= from[w] + length) continue;
                last = day;
                for (int u = 0; u < n; u++) {
                    int a = workers.get(w).desk, b = workers.get(u).desk;
                    if (a < 0 || b < 0 || from[u] != Integer.MAX_VALUE || far(a, b) > r) continue;
                    from[u] = day + 1;
                    fallen++;
                }
            }
        }
        return what == 0 ? fallen : last;
    }

    // ---- acts, shelves

    interface Speaks {
        int n();
        void ran(int body);
        default int speaks(int x) { ran(1); return x + n(); }
    }

    interface Moves {
        void ran(int body);
        int hears(int x);
        int minds(int x);
        default int moves(int x) { ran(2); return hears(x) - minds(1); }
    }

    static class Word implements Speaks, Moves {
        List<Integer> trace;
        int number, kind;
        public int n() { return number; }
        public void ran(int body) { trace.add(body); }
        public int hears(int x) { ran(10); return speaks(x) * 2; }
        public int minds(int x) { ran(11); return x ^ number; }
    }

    static class Clear extends Word {
        public int speaks(int x) { ran(20); return super.speaks(x) + 3; }
    }

    static class Masked extends Word {
        public int hears(int x) { ran(30); return -super.hears(x); }
    }

    static class Half extends Masked {
        public int minds(int x) { ran(40); return super.minds(x) * 3; }
        public int hears(int x) { ran(41); return super.hears(x + 1); }
    }

    static class Raised extends Clear {
        public int moves(int x) { ran(50); return super.moves(x) ^ 5; }
    }

    static class Written extends Raised {
        public int minds(int x) { ran(60); return super.minds(x) - speaks(2); }
        public int moves(int x) { ran(61); return super.moves(x) + 1; }
    }

    static class Wanted extends Word {
        public int speaks(int x) { ran(70); return super.speaks(x) * 2; }
    }

    static class Boothed extends Wanted {
        public int hears(int x) { ran(80); return super.hears(x) + minds(2); }
        public int speaks(int x) { ran(81); return super.speaks(x) - 1; }
    }

    private static final Class<?>[] KINDS = {Word.class, Clear.class, Masked.class, Half.class, Raised.class,
        Written.class, Wanted.class, Boothed.class};

    int body(int kind) {
        if (kind < 0 || kind > 7) return BAD;
        if (bodies.size() == 50) return FULL;
        Word[] made = {new Word(), new Clear(), new Masked(), new Half(), new Raised(), new Written(), new Wanted(),
            new Boothed()};
        made[kind].number = bodies.size();
        made[kind].kind = kind;
        made[kind].trace = trace;
        bodies.add(made[kind]);
        return bodies.size() - 1;
    }

    int act(int body, int act, int x) {
        trace.clear();
        if (body < 0 || body >= bodies.size()) return 0;
        Word w = bodies.get(body);
        return act == 0 ? w.speaks(x) : act == 1 ? w.hears(x) : act == 2 ? w.minds(x) : act == 3 ? w.moves(x) : 0;
    }

    int trace(int i) {
        return i < 0 || i >= Math.min(24, trace.size()) ? BAD : trace.get(i);
    }

    private static boolean isShelf(int shelf) { return shelf >= 0 && shelf <= 5; }

    int keep(int shelf, int body) {
        if (!isShelf(shelf) || body < -1 || body >= bodies.size()) return BAD;
        shelves[shelf] = body < 0 ? null : bodies.get(body);
        return 1;
    }

    int row(int shelf, int sort, int n) {
        if (!isShelf(shelf) || sort < 0 || sort > 4 || n > 60) return BAD;
        if (n < 0) return -14;
        switch (sort) {
            case 0: shelves[shelf] = new byte[n]; break;
            case 1: shelves[shelf] = new short[n]; break;
            case 2: shelves[shelf] = new int[n]; break;
            case 3: shelves[shelf] = new long[n]; break;
            default: shelves[shelf] = new boolean[n];
        }
        return 1;
    }

    int put(int shelf, int i, long v) {
        if (!isShelf(shelf)) return BAD;
        Object o = shelves[shelf];
        if (o == null) return -11;
        try {
            if (o instanceof byte[]) ((byte[]) o)[i] = (byte) v;
            else if (o instanceof short[]) ((short[]) o)[i] = (short) v;
            else if (o instanceof int[]) ((int[]) o)[i] = (int) v;
            else if (o instanceof long[]) ((long[]) o)[i] = v;
            else ((boolean[]) o)[i] = v != 0;
        } catch (ClassCastException other) {
            return -12;
        } catch (ArrayIndexOutOfBoundsException none) {
            return -13;
        }
        return 1;
    }

    long element(int shelf, int i) {
        if (!isShelf(shelf)) return Long.MIN_VALUE;
        try {
            Object o = shelves[shelf];
            if (o instanceof boolean[]) return ((boolean[]) o)[i] ? 1 : 0;
            return java.lang.reflect.Array.getLong(o, i);
        } catch (NullPointerException | IllegalArgumentException | ArrayIndexOutOfBoundsException refused) {
            return Long.MIN_VALUE;
        }
    }

    int shift(int shelf, int i, int other, int j, int n) {
        if (!isShelf(shelf) || !isShelf(other)) return BAD;
        try {
            System.arraycopy(shelves[shelf], i, shelves[other], j, n);
        } catch (NullPointerException missing) {
            return -11;
        } catch (ArrayStoreException unlike) {
            return -12;
        } catch (IndexOutOfBoundsException none) {
            return -13;
        }
        return n;
    }

    int taken(int shelf, int k) {
        if (!isShelf(shelf) || k < 0 || k > 7) return BAD;
        if (shelves[shelf] == null) return -11;
        return KINDS[k].isInstance(shelves[shelf]) ? ((Word) shelves[shelf]).kind : -12;
    }

    int count(int what) {
        int[] all = {desks.size(), screens.size(), workers.size(), tape.length(), done.size(), bodies.size(), trace.size()};
        return what < 0 || what > 6 ? BAD : all[what];
    }
}
