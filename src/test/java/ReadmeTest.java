import java.io.File;
import java.lang.reflect.Field;
import java.lang.reflect.Method;
import java.lang.reflect.Modifier;
import java.net.URL;
import java.net.URLClassLoader;
import java.nio.file.Files;
import java.nio.file.Path;
import java.util.ArrayList;
import java.util.List;
import java.util.Set;
import java.util.TreeSet;
import java.util.regex.Matcher;
import java.util.regex.Pattern;

/** What README.md says is so when it is tried. */
public final class ReadmeTest {
    private static final Check check = new Check();

    public static void main(String[] args) throws Exception {
        String text = Files.readString(Path.of("README.md"));
        List<String> blocks = found(text, "(?ms)^```java\n(.*?)^```$");
        check.due("blocks of Java", blocks.size(), 2);
        for (int b = 0; b < blocks.size(); b++) tryLines("Readme" + b, blocks.get(b));
        calls(text);
        constants(text);
        tests(text);
        check.end("ReadmeTest");
    }

    private static List<String> found(String text, String pattern) {
        List<String> all = new ArrayList<>();
        Matcher m = Pattern.compile(pattern).matcher(text);
        while (m.find()) all.add(m.group(1));
        return all;
    }

    /** Compiles a block as it stands, but that each answer is kept, and looks at those that are told behind the lines. */
    private static void tryLines(String name, String block) throws Exception {
        List<String> told = new ArrayList<>();
        List<Long> due = new ArrayList<>();
        StringBuilder body = new StringBuilder();
        Pattern answered = Pattern.compile("(office\\..*;) +// (-?\\d+)(:.*)?");
        for (String line : block.split("\n")) {
            Matcher m = answered.matcher(line);
            if (m.matches()) {
                body.append("got[").append(told.size()).append("] = ").append(m.group(1)).append('\n');
                told.add(m.group(1));
                due.add(Long.valueOf(m.group(2)));
            } else {
                check.dueTrue("an answer stands behind it: " + line, !line.startsWith("office."));
                body.append(line).append('\n');
            }
        }
        String source = "public final class " + name + " { public static long[] run() { long[] got = new long[" + told.size()
            + "];\n" + body + "return got; } }\n";
        long[] got = run(name, source);
        check.due(name + ": answers", got.length, told.size());
        for (int i = 0; i < got.length; i++) check.due(name + ": " + told.get(i), got[i], due.get(i));
        check.dueTrue(name + ": at most 512 calls", told.size() <= Told.MOST_CALLS);
    }

    private static long[] run(String name, String source) throws Exception {
        Path folder = Files.createTempDirectory("readme");
        Path file = folder.resolve(name + ".java");
        try {
            Files.writeString(file, source);
            String at = new File(FortyDesks.class.getProtectionDomain().getCodeSource().getLocation().toURI()).getPath();
            int answer = new ProcessBuilder("javac", "-cp", at, "-d", folder.toString(), file.toString()).inheritIO().start()
                .waitFor();
            check.due(name + " compiles", answer, 0);
            if (answer != 0) return new long[0];
            try (URLClassLoader loader = new URLClassLoader(new URL[] {folder.toUri().toURL()})) {
                return (long[]) loader.loadClass(name).getMethod("run").invoke(null);
            }
        } finally {
            for (File left : folder.toFile().listFiles()) left.delete();
            folder.toFile().delete();
        }
    }

    /** Each call of the face has one row, with as many arguments as it takes. */
    private static void calls(String text) {
        Set<String> told = new TreeSet<>();
        for (String call : found(text, "(?m)^\\| `(\\w+\\([^`]*\\))` \\| \\S")) {
            String with = call.substring(call.indexOf('(') + 1, call.length() - 1);
            String name = call.substring(0, call.indexOf('('));
            check.dueTrue("told once: " + call, told.add(name + "/" + (with.isEmpty() ? 0 : with.split(", ").length)));
        }
        Set<String> face = new TreeSet<>();
        for (Method m : FortyDesks.class.getDeclaredMethods()) {
            if (Modifier.isPublic(m.getModifiers())) face.add(m.getName() + "/" + m.getParameterCount());
        }
        check.dueTrue("the calls of the face: " + face + ", of the table: " + told, told.equals(face));
    }

    private static void constants(String text) throws Exception {
        for (Field f : FortyDesks.class.getDeclaredFields()) {
            if (!Modifier.isPublic(f.getModifiers())) continue;
            String row = "| `" + f.getName() + "` " + f.getInt(null) + " |";
            check.dueTrue("a row begins " + row, text.contains("\n" + row));
        }
    }

    private static void tests(String text) {
        Set<String> listed = new TreeSet<>();
        for (String entry : found(text, "(?m)^- ([^:]*):")) listed.addAll(found(entry, "`(\\w+Test)`"));
        Set<String> there = new TreeSet<>();
        for (String file : new File("src/test/java").list()) {
            if (file.endsWith("Test.java")) there.add(file.substring(0, file.length() - 5));
        }
        check.dueTrue("tests that are there: " + there + ", on the list: " + listed, listed.equals(there));
    }
}
