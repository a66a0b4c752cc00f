/** Counts and prints answers that are not as due; ends the test with 1 if there was one. */
final class Check {
    private int calls;
    private int wrong;

    void due(String call, long got, long want) {
        calls++;
        if (got == want) return;
        wrong++;
        System.out.println(call + " answered " + got + ", due is " + want);
    }

    void dueTrue(String what, boolean holds) {
        due(what, holds ? 1 : 0, 1);
    }

    void end(String name) {
        System.out.println(name + ": " + calls + " answers looked at, " + wrong + " wrong");
        if (wrong != 0 || calls == 0) System.exit(1);
    }

    /** Feeds a law and answers what law() answers. */
    static int law(FortyDesks x, String text) {
        for (int i = 0; i < text.length(); i++) x.feed(text.charAt(i));
        return x.law();
    }

    /**
     * An office told in words: R the room's wd, D a desk's cell, S a screen's cell / height, W a worker's vm / needs,
     * M the mask; any other word is the law.
     */
    static FortyDesks office(String told) {
        FortyDesks x = new FortyDesks();
        for (String word : told.split(" ")) {
            String[] numbers = word.substring(1).split("/");
            if (word.startsWith("D")) x.desk(Integer.parseInt(numbers[0]));
            else if (word.startsWith("R")) x.room(Integer.parseInt(numbers[0]));
            else if (word.startsWith("S")) x.screen(Integer.parseInt(numbers[0]), Integer.parseInt(numbers[1]));
            else if (word.startsWith("W")) x.worker(Integer.parseInt(numbers[0]), Integer.parseInt(numbers[1]), 20050);
            else if (word.startsWith("M")) x.set(0, Integer.parseInt(numbers[0]));
            else law(x, word);
        }
        return x;
    }
}
