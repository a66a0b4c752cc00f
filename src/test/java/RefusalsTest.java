import java.util.HashMap;
import java.util.List;
import java.util.Map;

/**
 * "Answers, of several the one named first", and "What is answered so changes nothing": each refused call is made on
 * one of two objects that are alike; behind it both must look the same. So must they behind a call "in thought".
 */
public final class RefusalsTest {
    private static final Map<String, Integer> NAMED = Map.of("BAD", FortyDesks.BAD, "NOT", FortyDesks.NOT, "FULL",
        FortyDesks.FULL, "STATE", FortyDesks.STATE, "VOID", FortyDesks.VOID);
    private static final Check check = new Check();
    private static final Map<String, String> OFFICES = new HashMap<>();

    public static void main(String[] args) {
        tellOffices();
        room();
        desks();
        peopleAndSeats();
        settings();
        tape();
        sound();
        seats();
        bodies();
        shelves();
        shifts();
        ordered();
        inThought();
        refusedActsAndLaws();
        check.end("RefusalsTest");
    }

    /** Shelves of "plain": 0 nothing, 1 a body, 2 five bytes, 3 four ints, 4 three ints, 5 two booleans. */
    private static void tellOffices() {
        OFFICES.put("bare", "");
        OFFICES.put("plain", "desk(101) desk(103) desk(404) screen(102,5) screen(303,8) worker(603,2,21030)"
            + " worker(505,1,19050) worker(708,0,24010) worker(402,7,22000) set(0,12) set(1,3) set(2,1) "
            + Told.fed("v-3*d-k+c") + "law() " + Told.fed("v-d") + "mend(0,0,61) mend(1,1,6) mend(0,2,6) mend(2,0,33) undo()"
            + " body(0) body(5) body(7) keep(1,1) row(2,0,5) put(2,0,5) put(2,1,7) row(3,2,4) put(3,1,77) row(4,2,3)"
            + " put(4,2,9) row(5,4,2) put(5,1,1) act(1,3,4)");
        StringBuilder room = new StringBuilder("row(0,0,4) put(0,0,5) put(0,1,5) row(1,1,4) ");
        StringBuilder bodies = new StringBuilder();
        StringBuilder changes = new StringBuilder("screen(0,3) worker(0,0,20000) ");
        for (int i = 0; i < 10; i++) room.append("desk(").append(100 * i).append(") screen(").append(100 * i + 2).append(",5) ");
        for (int i = 0; i < 10; i++) room.append("worker(").append(500 + i).append(",5,20050) ");
        for (int i = 0; i < 50; i++) bodies.append("body(").append(i % 8).append(") ");
        for (int i = 1; i <= 43; i++) changes.append("mend(0,0,").append(i).append(") ");
        OFFICES.put("ten of each", room.toString());
        OFFICES.put("fifty bodies", bodies + "keep(0,49) act(49,3,1)");
        OFFICES.put("forty changes", changes + "undo() undo() undo()");
        OFFICES.put("a full tape", "desk(0) desk(1) worker(500,0,20000) worker(500,0,20000) " + Told.fed("v+1".repeat(40)));
        OFFICES.put("no rest", "desk(0) desk(1) worker(505,0,20050) worker(505,0,20050) " + Told.fed("99*(v<60)") + "law()");
        // one flees, one follows
        OFFICES.put("no morning", "desk(0) desk(1) desk(11) worker(501,0,20050) worker(501,1,20050)");
        OFFICES.put("too loud", "desk(0) desk(1) worker(995,0,20100) worker(995,0,20100) " + Told.fed("61") + "law()");
    }

    private static long due(String told) {
        return NAMED.containsKey(told) ? NAMED.get(told) : Long.parseLong(told);
    }

    /** Calls with the answers due behind them, "room(303) BAD" and so on. */
    private static void refused(String office, String... calls) {
        List<Long> untouched = Told.picture(Told.office(OFFICES.get(office)));
        for (String told : calls) {
            String call = told.substring(0, told.lastIndexOf(')') + 1);
            String answer = told.substring(told.lastIndexOf(')') + 1).trim();
            FortyDesks x = new FortyDesks();
            int made = Told.calls(x, OFFICES.get(office)) + 1;
            check.due(office + ": " + call, Told.call(x, call), due(answer));
            List<Long> seen = Told.picture(x);
            check.dueTrue(office + ": " + call + " changes nothing: " + seen, seen.equals(untouched));
            check.dueTrue(office + ": at most 512 calls: " + (made + seen.size()), made + seen.size() <= Told.MOST_CALLS);
        }
    }

    private static void room() {
        refused("bare", "room(MIN) BAD", "room(-1212) BAD", "room(-1) BAD", "room(0) BAD", "room(304) BAD", "room(403) BAD",
            "room(2104) BAD", "room(2021) BAD", "room(2121) BAD", "room(MAX) BAD");
        refused("plain", "room(2020) STATE", "room(1212) STATE", "room(404) STATE", "room(303) BAD", "room(2104) BAD");
        refused("ten of each", "room(2020) STATE", "room(1) BAD");
        OFFICES.put("a screen alone", "screen(0,1)");
        OFFICES.put("a desk alone", "desk(0)");
        refused("a screen alone", "room(2020) STATE", "room(3) BAD");
        refused("a desk alone", "room(2020) STATE", "room(3) BAD");
        refused("bare", "desk(MIN) BAD", "desk(-1) BAD", "desk(-100) BAD", "desk(12) BAD", "desk(1200) BAD", "desk(1112) BAD",
            "desk(1211) BAD", "desk(MAX) BAD");
        refused("bare", "screen(MIN,5) BAD", "screen(-1,5) BAD", "screen(-100,5) BAD", "screen(12,5) BAD", "screen(1200,5) BAD",
            "screen(MAX,5) BAD", "screen(0,0) BAD", "screen(0,10) BAD", "screen(0,-1) BAD", "screen(0,MIN) BAD", "screen(0,MAX) BAD");
        refused("plain", "desk(101) BAD", "desk(102) BAD", "screen(101,5) BAD", "screen(102,5) BAD", "desk(1200) BAD");
        refused("ten of each", "desk(1) FULL", "desk(0) BAD", "desk(2) BAD", "desk(1200) BAD", "desk(-1) BAD", "screen(1,5) FULL",
            "screen(0,5) BAD", "screen(2,5) BAD", "screen(1200,5) BAD", "screen(-1,5) BAD", "screen(1,0) BAD", "screen(1,10) BAD");
    }

    private static void desks() {
        refused("plain", "desks(-1,0,1) BAD", "desks(6,0,1) BAD", "desks(MIN,0,1) BAD", "desks(MAX,0,1) BAD", "desks(2,0,0) BAD",
            "desks(2,0,-1) BAD", "desks(2,0,11) BAD", "desks(2,0,MIN) BAD", "desks(2,0,MAX) BAD", "desks(1,0,1) -12",
            "desks(3,0,1) -12", "desks(5,0,1) -12", "desks(1,0,0) BAD", "desks(3,0,11) BAD", "desks(0,0,0) BAD");
        // nothing comes where the row is missing, ends at once, or its first two is not as it may be
        refused("plain", "desks(0,0,1) 0", "desks(0,0,10) 0", "desks(2,4,1) 0", "desks(2,5,1) 0", "desks(2,6,1) 0",
            "desks(2,MAX,10) 0", "desks(2,2147483646,10) 0", "desks(2,-1,10) 0", "desks(2,-2,10) 0", "desks(2,MIN,10) 0");
        refused("ten of each", "desks(0,0,1) 0", "desks(0,0,10) 0", "desks(1,0,1) -12", "desks(0,0,11) BAD", "desks(2,0,1) 0");
        refused("fifty bodies", "desks(0,0,1) -12");
    }

    private static void peopleAndSeats() {
        refused("plain", "worker(-1,0,20000) BAD", "worker(1000,0,20000) BAD", "worker(MIN,0,20000) BAD", "worker(MAX,0,20000) BAD",
            "worker(0,-1,20000) BAD", "worker(0,1024,20000) BAD", "worker(0,MIN,20000) BAD", "worker(0,MAX,20000) BAD",
            "worker(0,0,9100) BAD", "worker(0,0,9999) BAD", "worker(0,0,31000) BAD", "worker(0,0,20101) BAD", "worker(0,0,10999) BAD",
            "worker(0,0,-20000) BAD", "worker(0,0,0) BAD", "worker(0,0,MIN) BAD", "worker(0,0,MAX) BAD");
        refused("ten of each", "worker(0,0,20000) FULL", "worker(1000,0,20000) BAD", "worker(0,1024,20000) BAD",
            "worker(0,0,31000) BAD", "worker(0,0,20101) BAD");
        refused("plain", "sit(-1,0) VOID", "sit(4,0) VOID", "sit(MIN,0) VOID", "sit(MAX,0) VOID", "sit(0,-2) VOID", "sit(0,3) VOID",
            "sit(0,MIN) VOID", "sit(0,MAX) VOID", "sit(0,1) NOT", "sit(3,0) NOT", "sit(1,2) NOT", "sit(4,1) VOID", "sit(-1,-1) VOID");
        refused("ten of each", "sit(0,9) NOT", "sit(9,0) NOT", "sit(10,0) VOID", "sit(0,10) VOID", "sit(10,9) VOID");
        refused("bare", "sit(0,-1) VOID", "sit(0,0) VOID", "sit(-1,-1) VOID");
        // where one sits already, and none again
        refused("plain", "sit(0,0) 0", "sit(3,-1) -1");
        refused("plain", "of(4,0) VOID", "of(-1,5) VOID", "of(3,10) VOID", "of(2,20) VOID", "of(2,21) VOID", "of(0,6) VOID",
            "of(0,9) VOID", "of(0,11) VOID", "of(0,19) VOID", "of(0,22) VOID", "of(0,-1) VOID", "of(MIN,0) VOID", "of(MAX,10) VOID",
            "of(0,MIN) VOID", "of(0,MAX) VOID");
        refused("ten of each", "of(10,0) VOID", "of(10,10) VOID", "of(10,20) VOID", "of(10,21) VOID");
    }

    private static void settings() {
        refused("plain", "set(0,-1) BAD", "set(0,61) BAD", "set(1,-1) BAD", "set(1,10) BAD", "set(2,-1) BAD", "set(2,10) BAD",
            "set(-1,5) BAD", "set(3,5) BAD", "set(0,MIN) BAD", "set(0,MAX) BAD", "set(MIN,5) BAD", "set(MAX,5) BAD");
        refused("plain", "mend(0,0,-1) BAD", "mend(0,0,100) BAD", "mend(0,1,-1) BAD", "mend(0,1,10) BAD", "mend(0,2,0) BAD",
            "mend(0,2,10) BAD", "mend(4,0,5) BAD", "mend(4,1,5) BAD", "mend(2,2,5) BAD", "mend(-1,0,5) BAD", "mend(-1,1,5) BAD",
            "mend(-1,2,5) BAD", "mend(0,-1,5) BAD", "mend(0,3,5) BAD", "mend(MIN,0,5) BAD", "mend(MAX,2,5) BAD", "mend(0,0,MIN) BAD",
            "mend(0,1,MAX) BAD", "mend(0,2,MIN) BAD", "mend(0,MAX,1) BAD");
        // as it was: no change
        refused("plain", "mend(0,0,61) 61", "mend(1,1,6) 6", "mend(0,2,6) 6", "mend(2,0,70) 70");
        refused("forty changes", "mend(0,0,100) BAD", "mend(1,0,5) BAD", "mend(0,2,0) BAD", "mend(0,0,40) 40", "mend(0,2,3) 3");
        refused("bare", "undo() STATE", "redo() STATE", "mend(0,0,5) BAD", "mend(0,2,5) BAD");
        OFFICES.put("all undone", "worker(500,0,20000) mend(0,0,51) mend(0,1,3) undo() undo()");
        OFFICES.put("all done again", "worker(500,0,20000) mend(0,0,51) mend(0,1,3) undo() redo()");
        refused("all undone", "undo() STATE");
        refused("all done again", "redo() STATE");
    }

    private static void tape() {
        refused("plain", "feed(-1) BAD", "feed(256) BAD", "feed(MIN) BAD", "feed(MAX) BAD");
        refused("a full tape", "feed(118) FULL", "feed(0) FULL", "feed(255) FULL", "feed(-1) BAD", "feed(256) BAD");
    }

    private static void sound() {
        refused("plain", "way(3,0) BAD", "way(30,0) BAD", "way(33,1) BAD", "way(-1,0) BAD", "way(-10,1) BAD", "way(100,0) BAD",
            "way(1,-1) BAD", "way(1,2) BAD", "way(MIN,0) BAD", "way(MAX,0) BAD", "way(0,MIN) BAD");
        refused("bare", "way(0,0) BAD", "level(0) BAD", "level(1) BAD", "level(10) BAD", "hears(0,0) BAD");
        refused("plain", "level(0) BAD", "level(11) BAD", "level(33) BAD", "level(4) BAD", "level(40) BAD", "level(-1) BAD",
            "level(100) BAD", "level(MIN) BAD", "level(MAX) BAD", "level(3) NOT", "level(30) NOT", "level(43) BAD", "level(34) BAD");
        refused("plain", "hears(-1,0) BAD", "hears(4,0) BAD", "hears(0,-1) BAD", "hears(0,3) BAD", "hears(MIN,1) BAD",
            "hears(MAX,2) BAD", "hears(0,MIN) BAD", "hears(0,MAX) BAD");
        refused("plain", "quiet(-1) BAD", "quiet(41) BAD", "quiet(MIN) BAD", "quiet(MAX) BAD");
        refused("too loud", "quiet(0) NOT", "quiet(-1) BAD", "quiet(41) BAD", "quiet(1) 0", "higher(0) NOT", "higher(2) VOID",
            "higher(-1) VOID");
        refused("plain", "higher(-1) VOID", "higher(2) VOID", "higher(MIN) VOID", "higher(MAX) VOID");
        refused("bare", "higher(0) NOT", "higher(1) 0", "higher(2) VOID", "hush() NOT", "rest(0,0) BAD", "rest(1,-1) 1");
        refused("no rest", "rest(0,-1) NOT", "rest(0,0) NOT", "rest(1,1) NOT", "rest(1,-1) NOT", "rest(2,0) BAD", "rest(-1,0) BAD",
            "rest(0,2) BAD", "rest(0,-2) BAD", "hush() 0");
        refused("plain", "rest(-1,0) BAD", "rest(2,0) BAD", "rest(0,-2) BAD", "rest(0,4) BAD", "rest(MIN,0) BAD", "rest(MAX,0) BAD",
            "rest(0,MIN) BAD", "rest(1,MAX) BAD");
    }

    private static void seats() {
        refused("plain", "seats(-1) VOID", "seats(0) VOID", "seats(-2) VOID", "seats(4) VOID");
        refused("bare", "seats(-1) VOID", "seats(0) VOID", "swaps(0) VOID", "swaps(-3) VOID", "mornings(0) VOID", "mornings(-2) VOID");
        refused("too loud", "seats(-2) VOID", "seats(2) VOID", "seats(MIN) VOID", "seats(MAX) VOID");
        refused("ten of each", "seats(-1) VOID", "seats(0) VOID", "seats(10) VOID");
        refused("plain", "swaps(-3) VOID", "swaps(4) VOID", "swaps(MIN) VOID", "swaps(MAX) VOID");
        refused("plain", "broken(1,0,-1) BAD", "broken(1,101,-1) BAD", "broken(1,-1,0) BAD", "broken(1,1,-2) BAD", "broken(1,1,4) BAD",
            "broken(1,MIN,0) BAD", "broken(1,MAX,0) BAD", "broken(1,1,MIN) BAD", "broken(1,1,MAX) BAD", "broken(1,0,4) BAD");
        refused("too loud", "booths(1,0,0) BAD", "booths(1,101,0) BAD", "booths(1,1,-1) BAD", "booths(1,1,1001) BAD",
            "booths(1,MIN,0) BAD", "booths(1,MAX,0) BAD", "booths(1,1,MIN) BAD", "booths(1,1,MAX) BAD", "booths(1,1,0) 2");
        refused("ten of each", "booths(1,0,0) BAD", "booths(1,1,1001) BAD");
        refused("no morning", "mornings(-1) NOT", "mornings(0) NOT", "mornings(1) NOT", "mornings(2) VOID", "mornings(-2) VOID",
            "mornings(MIN) VOID", "mornings(MAX) VOID");
        refused("bare", "heat(0) STATE", "heat(3) STATE", "heat(-1) BAD", "heat(4) BAD", "ill(0,11,0) BAD");
        refused("plain", "heat(-1) BAD", "heat(4) BAD", "heat(MIN) BAD", "heat(MAX) BAD");
        refused("plain", "ill(-1,11,0) BAD", "ill(4,11,0) BAD", "ill(0,10,0) BAD", "ill(0,0,0) BAD", "ill(0,400,0) BAD",
            "ill(0,410,0) BAD", "ill(0,411,0) BAD", "ill(0,-1,0) BAD", "ill(0,-9,0) BAD", "ill(0,11,-1) BAD", "ill(0,11,2) BAD",
            "ill(MIN,11,0) BAD", "ill(MAX,11,0) BAD", "ill(0,MIN,0) BAD", "ill(0,MAX,0) BAD", "ill(0,11,MIN) BAD", "ill(0,11,MAX) BAD");
    }

    private static void bodies() {
        refused("plain", "body(-1) BAD", "body(8) BAD", "body(MIN) BAD", "body(MAX) BAD");
        refused("fifty bodies", "body(0) FULL", "body(7) FULL", "body(8) BAD", "body(-1) BAD");
        refused("bare", "trace(0) BAD", "trace(-1) BAD");
        // WRITTEN moves: ten bodies ran
        refused("plain", "trace(-1) BAD", "trace(10) BAD", "trace(23) BAD", "trace(24) BAD", "trace(MIN) BAD", "trace(MAX) BAD");
        refused("plain", "keep(-1,0) BAD", "keep(6,0) BAD", "keep(0,-2) BAD", "keep(0,3) BAD", "keep(1,3) BAD", "keep(2,-2) BAD",
            "keep(6,-1) BAD", "keep(MIN,0) BAD", "keep(MAX,0) BAD", "keep(0,MIN) BAD", "keep(0,MAX) BAD");
        refused("fifty bodies", "keep(0,50) BAD", "keep(0,-2) BAD", "keep(6,49) BAD");
        refused("plain", "taken(-1,0) BAD", "taken(6,0) BAD", "taken(1,-1) BAD", "taken(1,8) BAD", "taken(0,0) -11", "taken(0,8) BAD",
            "taken(0,-1) BAD", "taken(2,0) -12", "taken(5,7) -12", "taken(2,8) BAD", "taken(1,2) -12", "taken(1,6) -12",
            "taken(MIN,0) BAD", "taken(MAX,0) BAD", "taken(1,MIN) BAD", "taken(1,MAX) BAD");
        refused("plain", "count(-1) BAD", "count(7) BAD", "count(MIN) BAD", "count(MAX) BAD");
    }

    private static void shelves() {
        refused("plain", "row(-1,0,1) BAD", "row(6,0,1) BAD", "row(0,-1,1) BAD", "row(0,5,1) BAD", "row(0,0,61) BAD", "row(2,0,61) BAD",
            "row(1,0,MAX) BAD", "row(MIN,0,1) BAD", "row(MAX,0,1) BAD", "row(0,MIN,1) BAD", "row(0,MAX,1) BAD");
        refused("plain", "row(0,0,-1) -14", "row(1,3,-1) -14", "row(2,0,-1) -14", "row(5,4,MIN) -14", "row(6,0,-1) BAD",
            "row(-1,0,-1) BAD", "row(0,5,-1) BAD", "row(0,-1,-1) BAD");
        refused("plain", "put(-1,0,1) BAD", "put(6,0,1) BAD", "put(MIN,0,1) BAD", "put(MAX,0,1) BAD", "put(0,0,1) -11", "put(0,-1,1) -11",
            "put(0,99,1) -11", "put(1,0,1) -12", "put(1,-1,1) -12", "put(1,99,1) -12", "put(2,-1,1) -13", "put(2,5,1) -13",
            "put(3,4,1) -13", "put(4,3,1) -13", "put(5,2,1) -13", "put(5,-1,1) -13", "put(2,MIN,1) -13", "put(2,MAX,1) -13",
            "put(-1,99,1) BAD");
        String min = Long.toString(Long.MIN_VALUE);
        for (String call : new String[] {"element(-1,0)", "element(6,0)", "element(MIN,0)", "element(MAX,0)", "element(0,0)",
            "element(0,-1)", "element(1,0)", "element(1,-1)", "element(2,-1)", "element(2,5)", "element(3,4)", "element(5,2)",
            "element(2,MIN)", "element(2,MAX)"}) refused("plain", call + " " + min);
        OFFICES.put("empty rows", "row(0,0,0) row(1,1,0) row(2,2,0) row(3,3,0) row(4,4,0) row(5,0,0)");
        refused("empty rows", "put(0,0,1) -13", "put(3,0,1) -13", "put(4,0,1) -13", "put(4,-1,1) -13", "element(0,0) " + min,
            "element(4,0) " + min, "desks(0,0,1) 0", "desks(1,0,1) -12", "shift(0,0,5,0,0) 0", "shift(0,0,5,0,1) -13",
            "shift(0,0,1,0,0) -12", "shift(0,1,5,0,0) -13", "taken(0,0) -12");
    }

    private static void shifts() {
        refused("plain", "shift(-1,0,2,0,1) BAD", "shift(6,0,2,0,1) BAD", "shift(2,0,-1,0,1) BAD", "shift(2,0,6,0,1) BAD",
            "shift(MIN,0,2,0,1) BAD", "shift(2,0,MAX,0,1) BAD", "shift(6,0,0,0,1) BAD", "shift(0,0,6,0,1) BAD", "shift(6,0,1,0,1) BAD",
            "shift(1,0,6,0,1) BAD");
        refused("plain", "shift(0,0,2,0,1) -11", "shift(2,0,0,0,1) -11", "shift(0,0,0,0,0) -11", "shift(0,0,1,0,1) -11",
            "shift(1,0,0,0,1) -11", "shift(0,-1,3,99,1) -11", "shift(3,99,0,0,-1) -11");
        refused("plain", "shift(1,0,1,0,0) -12", "shift(1,0,2,0,1) -12", "shift(2,0,1,0,1) -12", "shift(2,0,3,0,1) -12",
            "shift(3,0,5,0,1) -12", "shift(5,0,2,0,1) -12", "shift(2,-1,3,0,1) -12", "shift(2,0,3,99,1) -12", "shift(2,0,3,0,-1) -12");
        refused("plain", "shift(3,-1,4,0,1) -13", "shift(3,0,4,-1,1) -13", "shift(3,0,4,0,4) -13", "shift(3,4,4,0,1) -13",
            "shift(3,0,4,3,1) -13", "shift(3,2,4,0,3) -13", "shift(3,0,4,1,3) -13", "shift(3,0,4,0,-1) -13", "shift(3,5,4,0,0) -13",
            "shift(3,0,4,4,0) -13", "shift(3,MAX,4,0,1) -13", "shift(3,0,4,MAX,1) -13", "shift(3,1,4,0,MAX) -13",
            "shift(3,MIN,4,0,1) -13", "shift(3,0,4,MIN,1) -13", "shift(3,0,4,0,MIN) -13", "shift(3,MAX,4,MAX,MAX) -13",
            "shift(3,0,3,1,4) -13", "shift(3,1,3,0,4) -13");
        // none of them, from places that are there and from the rows' ends; and all of them to where they are
        refused("plain", "shift(3,0,4,0,0) 0", "shift(3,4,4,3,0) 0", "shift(3,0,3,0,4) 4");
    }

    /** Of several answers the one named first, where no single call above already has two of them. */
    private static void ordered() {
        OFFICES.put("none sits", "worker(500,0,20000) worker(500,0,20000)");
        refused("none sits", "level(0) BAD", "level(11) BAD", "level(1) NOT", "level(10) NOT", "level(2) BAD", "level(20) BAD",
            "seats(-1) VOID", "seats(2) VOID", "hears(0,0) 0", "hears(1,1) 0", "hears(0,2) 0", "quiet(0) 0", "net() 0", "hush() 0");
        OFFICES.put("all in one minute", OFFICES.get("ten of each").replace(",5,20050", ",0,20100"));
        refused("all in one minute", "booths(1,1,0) NOT", "booths(1,1,-1) BAD", "booths(1,0,0) BAD", "booths(1,101,0) BAD");
    }

    /** Calls that only ask change nothing, whatever they find. */
    private static void inThought() {
        String[] asked = {"way(1,0)", "way(12,1)", "level(1)", "hears(0,0)", "hears(1,1)", "hears(1,2)", "net()", "quiet(0)", "quiet(3)",
            "higher(0)", "higher(1)", "rest(0,-1)", "rest(1,-1)", "rest(0,1)", "rest(1,1)", "hush()", "seats(-1)", "seats(1)",
            "swaps(-1)", "swaps(-2)", "swaps(1)", "broken(7,60,-1)", "broken(7,60,1)", "booths(7,60,5)", "mornings(-1)", "mornings(1)",
            "heat(0)", "heat(1)", "heat(2)", "heat(3)", "ill(1,39,0)", "ill(1,39,1)", "of(1,0)", "of(0,10)", "of(0,20)", "of(0,21)",
            "trace(0)", "element(2,1)", "taken(1,0)", "count(4)"};
        for (String office : new String[] {"plain", "ten of each", "no rest", "no morning", "too loud"}) {
            for (String call : asked) {
                long answer = Told.call(Told.office(OFFICES.get(office)), call);
                refused(office, call + " " + answer);
            }
        }
    }

    /** These two do change something: an act without a body leaves no TRACE, a law at fault an empty TAPE. */
    private static void refusedActsAndLaws() {
        for (String call : new String[] {"act(3,0,1)", "act(-1,0,1)", "act(0,4,1)", "act(0,-1,1)", "act(MIN,0,1)", "act(MAX,3,1)",
            "act(0,MIN,1)", "act(0,MAX,1)"}) {
            FortyDesks x = Told.office(OFFICES.get("plain"));
            check.due(call, Told.call(x, call), 0);
            check.due(call + ", then count(6)", x.count(6), 0);
            check.due(call + ", then trace(0)", x.trace(0), FortyDesks.BAD);
            check.due(call + ", then a good one", x.act(1, 3, 4), Told.office(OFFICES.get("plain")).act(1, 3, 4));
            check.dueTrue(call + " changes no more", Told.picture(x).equals(Told.picture(Told.office(OFFICES.get("plain")))));
        }
        FortyDesks x = Told.office(OFFICES.get("plain") + " feed(63)");
        check.due("v-d?", x.law(), -104);
        check.due("v-d?, then the tape", x.count(3), 0);
        Told.calls(x, Told.fed("v-d"));
        check.dueTrue("v-d? changes no more", Told.picture(x).equals(Told.picture(Told.office(OFFICES.get("plain")))));
    }
}
