/** Counts and prints answers that are not as due; ends the test with 1 if there was one. */
final class Check {
    private int calls;
    private int wrong;

    void due(String call, long got, long want) {
        calls++;
        if (got == want) return;
        wrong++;
        System.out.println(call + " answered " + got + ", due is " + want);
    }

    void dueTrue(String what, boolean holds) {
        due(what, holds ? 1 : 0, 1);
    }

    void end(String name) {
        System.out.println(name + ": " + calls + " answers looked at, " + wrong + " wrong");
        if (wrong != 0 || calls == 0) System.exit(1);
    }

    /** Feeds a law and answers what law() answers. */
    static int law(FortyDesks x, String text) {
        for (int i = 0; i < text.length(); i++) x.feed(text.charAt(i));
        return x.law();
    }
}
