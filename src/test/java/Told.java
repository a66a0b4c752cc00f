import java.lang.reflect.InvocationTargetException;
import java.lang.reflect.Method;
import java.util.ArrayList;
import java.util.HashMap;
import java.util.List;
import java.util.Map;

/** Calls told as texts, so that two objects can be led through the same ones, and all that can be seen of an object. */
final class Told {
    /** What is promised ends with an object's 512th call. */
    static final int MOST_CALLS = 512;

    private static final Map<String, Method> METHODS = new HashMap<>();

    static {
        for (Method m : FortyDesks.class.getDeclaredMethods()) METHODS.put(m.getName(), m);
    }

    private Told() {}

    /** One call, such as "put(0, 1, 300)"; MIN and MAX are the least and the greatest int. */
    static long call(FortyDesks x, String told) {
        int open = told.indexOf('(');
        Method method = METHODS.get(told.substring(0, open));
        String inside = told.substring(open + 1, told.lastIndexOf(')')).trim();
        String[] with = inside.isEmpty() ? new String[0] : inside.split(",");
        Object[] args = new Object[with.length];
        for (int i = 0; i < with.length; i++) {
            String v = with[i].trim().replace("MIN", "-2147483648").replace("MAX", "2147483647");
            if (method.getParameterTypes()[i] == int.class) args[i] = Integer.valueOf(v);
            else args[i] = Long.valueOf(v);
        }
        try {
            return ((Number) method.invoke(x, args)).longValue();
        } catch (InvocationTargetException thrown) {
            throw new IllegalStateException(told + " has thrown", thrown.getCause());
        } catch (IllegalAccessException never) {
            throw new IllegalStateException(never);
        }
    }

    /** Many calls, parted by blanks (so without any inside): how many. */
    static int calls(FortyDesks x, String told) {
        String[] words = told.trim().split("\\s+");
        int made = 0;
        for (String word : words) {
            if (word.isEmpty()) continue;
            call(x, word);
            made++;
        }
        return made;
    }

    static FortyDesks office(String told) {
        FortyDesks x = new FortyDesks();
        calls(x, told);
        return x;
    }

    /** The calls that feed a text. */
    static String fed(String text) {
        StringBuilder told = new StringBuilder();
        for (int i = 0; i < text.length(); i++) told.append("feed(").append((int) text.charAt(i)).append(") ");
        return told.toString();
    }

    /**
     * All that later calls can tell of an object, an answer a call. The looks change it: it is looked at once, at the
     * end of its use.
     */
    static List<Long> picture(FortyDesks x) {
        List<Long> seen = new ArrayList<>();
        int[] counts = new int[7];
        for (int what = 0; what < 7; what++) counts[what] = see(seen, x.count(what));
        for (int i = 0; i <= counts[6]; i++) see(seen, x.trace(i));
        for (int w = 0; w < counts[2]; w++) for (int what = 2; what <= 5; what++) see(seen, x.of(w, what));
        for (int d = 0; d < counts[0]; d++) see(seen, x.of(d, 10));
        for (int s = 0; s < counts[1]; s++) see(seen, x.of(s, 20));
        for (int w = 0; w < 4; w++) for (int u = 0; u < 4; u++) if (u != w) see(seen, x.level(10 * w + u));
        see(seen, x.net());
        for (int what = 0; what < 3; what++) see(seen, x.set(what, 1));
        for (int s = 0; s < 6; s++) seeShelf(seen, x, s);
        seeMended(seen, x, counts);
        while (see(seen, x.redo()) != FortyDesks.STATE) continue;
        seeMended(seen, x, counts);
        while (see(seen, x.undo()) != FortyDesks.STATE) continue;
        seeMended(seen, x, counts);
        for (int b = 0; b < counts[5]; b++) see(seen, x.act(b, 3, 5));
        see(seen, x.law());
        see(seen, x.level(1));
        see(seen, x.room(404));
        // inside and outside of what the room may have become
        for (int xy : new int[] {2020, 1919, 1212, 1211, 1112, 1111, 404, 303}) see(seen, x.desk(xy));
        return seen;
    }

    private static int see(List<Long> seen, long answer) {
        seen.add(answer);
        return (int) answer;
    }

    private static void seeShelf(List<Long> seen, FortyDesks x, int shelf) {
        see(seen, x.taken(shelf, 0));
        long v = 0;
        for (int i = 0; i <= 60 && v != Long.MIN_VALUE; i++) {
            v = x.element(shelf, i);
            seen.add(v);
        }
        // what is left of such a number tells the sort
        see(seen, x.put(shelf, 0, 0x123456789ABCDEFL));
        seen.add(x.element(shelf, 0));
    }

    private static void seeMended(List<Long> seen, FortyDesks x, int[] counts) {
        for (int w = 0; w < counts[2]; w++) {
            see(seen, x.of(w, 0));
            see(seen, x.of(w, 1));
        }
        for (int s = 0; s < counts[1]; s++) see(seen, x.of(s, 21));
    }
}
