import java.lang.management.ManagementFactory;
import java.lang.reflect.Array;
import java.lang.reflect.Field;
import java.lang.reflect.Method;
import java.lang.reflect.Modifier;
import java.nio.file.Files;
import java.nio.file.Path;
import java.util.ArrayDeque;
import java.util.ArrayList;
import java.util.Arrays;
import java.util.Collections;
import java.util.IdentityHashMap;
import java.util.List;
import java.util.Set;
import java.util.TreeSet;
import java.util.regex.Matcher;
import java.util.regex.Pattern;

/** The public face, the rules of LANGUAGE.md that a look at the file can tell, and how much an object takes. */
public final class FormTest {
    private static final String[] FACE = {"room(int)", "desk(int)", "desks(int,int,int)", "screen(int,int)",
        "worker(int,int,int)", "sit(int,int)", "set(int,int)", "mend(int,int,int)", "of(int,int)", "feed(int)", "law()",
        "way(int,int)", "level(int)", "hears(int,int)", "net()", "quiet(int)", "higher(int)", "rest(int,int)", "hush()",
        "seats(int)", "swaps(int)", "broken(int,int,int)", "booths(int,int,int)", "mornings(int)", "heat(int)",
        "ill(int,int,int)", "undo()", "redo()", "body(int)", "act(int,int,int)", "trace(int)", "keep(int,int)",
        "row(int,int,int)", "put(int,int,long)", "element(int,int)", "shift(int,int,int,int,int)", "taken(int,int)",
        "count(int)"};
    private static final Check check = new Check();

    public static void main(String[] args) throws Exception {
        face();
        source(Files.readString(Path.of("src/main/java/FortyDesks.java")));
        size();
        callsMakeNothing();
        check.end("FormTest");
    }

    private static void face() throws Exception {
        Class<?> c = FortyDesks.class;
        check.due("the class is public and final", c.getModifiers(), Modifier.PUBLIC | Modifier.FINAL);
        check.due("one constructor", c.getDeclaredConstructors().length, 1);
        check.due("a public one", c.getConstructor().getModifiers(), Modifier.PUBLIC);
        Set<String> names = new TreeSet<>();
        Set<String> shown = new TreeSet<>();
        for (Method m : c.getDeclaredMethods()) {
            if (Modifier.isPrivate(m.getModifiers())) continue;
            String with = Arrays.toString(m.getParameterTypes()).replaceAll("[\\[\\] ]", "");
            shown.add(m.getName() + "(" + with + ")");
            names.add(m.getName());
            check.dueTrue(m + " is public, no more", m.getModifiers() == Modifier.PUBLIC);
            check.dueTrue(m + " answers an int, element a long",
                m.getReturnType() == (m.getName().equals("element") ? long.class : int.class));
        }
        check.dueTrue("the methods are those of the document: " + shown, shown.equals(new TreeSet<>(List.of(FACE))));
        int constants = 0;
        for (Field f : c.getDeclaredFields()) {
            if (Modifier.isPublic(f.getModifiers())) constants++;
            else check.dueTrue(f + " is private", Modifier.isPrivate(f.getModifiers()));
        }
        check.due("five constants", constants, 5);
        int[] values = {FortyDesks.BAD, FortyDesks.NOT, FortyDesks.FULL, FortyDesks.STATE, FortyDesks.VOID};
        int[] due = {-1, -2, -3, -5, -2000000000};
        for (int i = 0; i < due.length; i++) check.due("constant " + i, values[i], due[i]);
        List<Class<?>> all = new ArrayList<>(List.of(c.getDeclaredClasses()));
        check.dueTrue("at most twelve classes", all.size() + 1 <= 12);
        for (Class<?> inside : all) {
            check.dueTrue(inside + " is static", Modifier.isStatic(inside.getModifiers()));
            for (Method m : inside.getDeclaredMethods()) {
                check.dueTrue(m + " does not bear a name of the face", !names.contains(m.getName()));
                check.dueTrue(m + " takes at most seven", m.getParameterCount() <= 7);
            }
            ownFields(inside);
        }
        ownFields(c);
    }

    private static void ownFields(Class<?> c) {
        int own = 0;
        for (Field f : c.getDeclaredFields()) {
            if (Modifier.isStatic(f.getModifiers())) check.dueTrue(f + " is final", Modifier.isFinal(f.getModifiers()));
            else own++;
        }
        check.dueTrue(c + " has at most twenty fields", own <= 20);
    }

    private static void source(String text) {
        String code = text.replaceAll("(?s)/\\*.*?\\*/", "").replaceAll("//[^\n]*", "").replaceAll("'[^']'", "0");
        String[] banned = {"throw", "throws", "try", "catch", "synchronized", "assert", "import", "package", "instanceof",
            "Object", "Exception", "String", "Exact", "native", "Thread", "Runtime", "null"};
        for (String word : banned) {
            check.dueTrue("no " + word, !Pattern.compile("\\b\\w*" + word + "\\b").matcher(code).find());
        }
        check.dueTrue("no lambda, no method reference", !code.contains("->") && !code.contains("::"));
        Matcher library = Pattern.compile("\\b(System|Math|Arrays|Integer|Long)\\.(\\w+)").matcher(code);
        Set<String> allowed = Set.of("System.arraycopy", "Math.abs", "Math.min", "Math.max", "Long.MIN_VALUE");
        while (library.find()) check.dueTrue(library.group() + " is used", allowed.contains(library.group()));
        int begun = 0;
        String[] lines = text.split("\n");
        for (int i = 0; i < lines.length; i++) {
            if (lines[i].matches("( {4}| {8})[\\w\\[\\] ]+\\(.*\\) \\{") && !lines[i].contains(" class ")) begun = i;
            if (lines[i].matches(" {4}\\}| {8}\\}")) check.dueTrue("short enough: line " + begun, i - begun <= 60);
            check.dueTrue("line " + (i + 1) + " is no longer than 130", lines[i].length() <= 130);
        }
    }

    /** All calls of a run live in one room of some 600,000 objects and 7.3 million elements. */
    private static void size() throws Exception {
        Set<Object> seen = Collections.newSetFromMap(new IdentityHashMap<>());
        ArrayDeque<Object> open = new ArrayDeque<>();
        open.add(new FortyDesks());
        long elements = 0;
        while (!open.isEmpty()) {
            Object o = open.poll();
            if (!seen.add(o)) continue;
            if (o.getClass().isArray()) {
                elements += Array.getLength(o);
                if (o instanceof Object[]) for (Object inside : (Object[]) o) if (inside != null) open.add(inside);
                continue;
            }
            for (Field f : o.getClass().getDeclaredFields()) {
                if (Modifier.isStatic(f.getModifiers())) continue;
                elements++;
                f.setAccessible(true);
                if (!f.getType().isPrimitive() && f.get(o) != null) open.add(f.get(o));
            }
        }
        check.dueTrue("an object is at most 80 objects: " + seen.size(), seen.size() <= 80);
        check.dueTrue("and at most 7000 fields and elements: " + elements, elements <= 7000);
        String told = seen.size() + " objects and arrays with " + elements + " fields and elements";
        check.dueTrue("README.md tells: " + told, Files.readString(Path.of("README.md")).replace('\n', ' ').contains(told));
    }

    private static void callsMakeNothing() {
        com.sun.management.ThreadMXBean threads = (com.sun.management.ThreadMXBean) ManagementFactory.getThreadMXBean();
        long id = Thread.currentThread().getId();
        byte[] law = {'v', '-', 'd', ';', '1', '?', '(', 'k', ')'};
        FortyDesks x = new FortyDesks();
        callAll(x, law);
        callAll(x, law);
        FortyDesks y = new FortyDesks();
        long before = threads.getThreadAllocatedBytes(id);
        for (int times = 0; times < 20; times++) callAll(y, law);
        long made = threads.getThreadAllocatedBytes(id) - before;
        check.dueTrue("calls make no objects: " + made + " bytes", made < 4096);
    }

    private static void callAll(FortyDesks x, byte[] law) {
        x.room(1010);
        for (int d = 0; d < 6; d++) x.desk(101 * d);
        x.screen(1, 5);
        for (int w = 0; w < 5; w++) x.worker(605, w, 20050);
        for (byte b : law) x.feed(b);
        x.law();
        x.row(0, 0, 60);
        x.put(0, 1, 9);
        x.desks(0, 0, 3);
        x.shift(0, 0, 0, 1, 50);
        for (int w = -1; w < 3; w++) {
            x.sit(w, w);
            x.mend(w, 0, 70);
            x.of(w, 0);
            x.hears(w, 0);
            x.rest(0, w);
            x.rest(1, w);
            x.seats(w);
            x.swaps(w);
            x.mornings(w);
            x.broken(5, 100, w);
            x.ill(w, 55, 0);
            x.count(w);
            x.body(w);
            x.act(w, 3, 7);
            x.trace(w);
            x.keep(1, w);
            x.taken(1, 0);
            x.set(w, 3);
            x.heat(w);
        }
        x.net();
        x.level(1);
        x.way(1, 1);
        x.quiet(2);
        x.higher(0);
        x.hush();
        x.booths(5, 100, 0);
        x.element(0, 1);
        x.undo();
        x.redo();
    }
}
