/** Promise 12 at its edges: the first byte with which no TEXT goes on, numbers that wrap, lines that count or not. */
public final class EdgesOfLawTest {
    private static final String OPERANDS = "0123456789vdkc(!-";
    private static final String JOINS = "|&<=>+-*/%";
    private static final Check check = new Check();

    public static void main(String[] args) {
        eachByte();
        digits();
        opened();
        tooEarly();
        lengths();
        longestInTurn();
        levels();
        wraps();
        byZero();
        onesAndNoughts();
        lines();
        withoutAText();
        faultsKeepTheLaw();
        check.end("EdgesOfLawTest");
    }

    private static void due(String call, long got, long want) {
        check.due(call, got, want);
    }

    private static void fault(String text, int place) {
        FortyDesks x = new FortyDesks();
        due("12: " + text, Check.law(x, text), place < 0 ? 1 : -100 - place);
        due("12: " + text + ", the tape then", x.count(3), 0);
    }

    /** Behind a start, each of the 256 bytes: at fault, unless it is among those told. */
    private static void bytesBehind(String start, String goOn, String end) {
        for (int b = 0; b <= 255; b++) {
            String text = start + (char) b;
            if (end.indexOf(b) >= 0) fault(text, -1);
            else fault(text, goOn.indexOf(b) >= 0 ? text.length() : start.length());
        }
    }

    private static void eachByte() {
        String digits = "0123456789";
        bytesBehind("", "(!-", digits + "vdkc");
        bytesBehind("v", JOINS + "?;", "");
        bytesBehind("1", JOINS + "?;", digits);
        bytesBehind("(v", JOINS, ")");
        bytesBehind("(v)", JOINS + "?;", "");
        for (String start : new String[] {"v|", "v&", "v<", "v=", "v>", "v+", "v-", "v*", "v/", "v%", "!", "-", "v?", "v;", "v?d;",
            "v?d+"}) bytesBehind(start, "(!-", digits + "vdkc");
        bytesBehind("(", OPERANDS, "");
        // one comparison in a B, one ? in a LINE
        bytesBehind("v<d", "|&+-*/%?;", "");
        bytesBehind("v=d+1*c", "|&+-*/%?;", "");
        bytesBehind("v<d&k>c", "|&+-*/%?;", "");
        bytesBehind("v<d|k", JOINS + "?;", "");
        bytesBehind("v?d", JOINS + ";", "");
        bytesBehind("v<d?k", JOINS + ";", "");
        bytesBehind("v?d<k", "|&+-*/%;", "");
        bytesBehind("v?d;k", JOINS + "?;", "");
        bytesBehind("v?(d", JOINS, ")");
    }

    private static void noFault(String text) {
        fault(text, -1);
    }

    /** "A number (1 to 4 digits)." */
    private static void digits() {
        noFault("7");
        noFault("77");
        noFault("777");
        noFault("7777");
        fault("77777", 4);
        fault("777777", 4);
        noFault("0000");
        fault("00000", 4);
        fault("v+00000", 6);
        fault("(77777)", 5);
        fault("7777;77777", 9);
        for (int n = 0; n <= 9999; n++) {
            if (n % 100 != 99 && n % 97 != 0) continue;
            FortyDesks x = listening();
            due("12: the number " + n, Check.law(x, n + "=" + n / 100 + "*100+" + n % 100), 1);
            due("14: the number " + n, x.level(1), 1);
        }
    }

    /** "At most 6 of ( ! - ahead of an O are open at once." */
    private static void opened() {
        for (String sign : new String[] {"(", "!", "-"}) {
            for (int open = 0; open <= 9; open++) {
                String start = sign.repeat(open);
                String end = sign.equals("(") ? ")".repeat(open) : "";
                fault(start + "v" + end, open <= 6 ? -1 : 6);
                fault("v+" + start + "v" + end, open <= 6 ? -1 : 8);
                fault("v?" + start + "v" + end, open <= 6 ? -1 : 8);
                fault("v;" + start + "v" + end, open <= 6 ? -1 : 8);
                fault(start, open <= 6 ? open : 6);
            }
        }
        // each of the three kinds as the seventh, behind each as the sixth
        for (char sixth : "(!-".toCharArray()) {
            for (char seventh : "(!-".toCharArray()) {
                fault("(-(!-" + sixth + seventh + "v", 6);
                fault("(-(!-" + sixth, 6);
            }
        }
        // what is closed is open no more
        noFault("((((((v))))))");
        noFault("(v)+(v)+(v)+(v)+(v)+(v)+(v)+(v)+(v)");
        noFault("-v+-v+-v+-v+-v+-v+-v+-v+-v");
        noFault("((((((v)+(v)))+((v)))+----v))");
        fault("((((((v)+(v)))+((v)))+-----v))", 26);
        fault("((v)+------v)", 10);
        noFault("((v)+-----v)");
        fault("(((((-!v)))))", 6);
        noFault("(((((-v)+!v))))");
        noFault("(((((-v)+!!v))))");
        fault("(((((-v)+!!!v))))", 11);
        noFault("------v*------v");
        fault("------v*-------v", 14);
        // a minus between two is none of them
        noFault("v-------v");
        fault("v--------v", 8);
        bytesBehind("((((((", "0123456789vdkc", "");
        bytesBehind("-!-!-!", "", "0123456789vdkc");
    }

    /** "The length, if it ends too early." */
    private static void tooEarly() {
        fault("", 0);
        String whole = "v<d&!k|(c+12*-3)%4?(v-5);((d))/2";
        boolean[] text = new boolean[whole.length() + 1];
        for (int length : new int[] {1, 3, 6, 16, 18, 24, 30, 32}) text[length] = true;
        for (int length = 0; length <= whole.length(); length++) fault(whole.substring(0, length), text[length] ? -1 : length);
        for (int at = 0; at < whole.length(); at++) fault(whole.substring(0, at) + "#" + whole.substring(at), at);
    }

    /** "At most 120 bytes." */
    private static void lengths() {
        String most = "v" + "+1".repeat(59);
        noFault(most);
        noFault(most + "1");
        fault(most + "+", 120);
        fault(most + ")", 119);
        fault(most + ";", 120);
        fault("v".repeat(120), 1);
        noFault("!" + "v+!".repeat(39) + "v");
        noFault("!" + "v+!".repeat(39) + "12");
        noFault("0;".repeat(59) + "v");
        noFault("0;".repeat(59) + "12");
        fault("0;".repeat(60), 120);
        FortyDesks x = listening();
        for (int i = 0; i < 60; i++) {
            x.feed('1');
            x.feed('+');
        }
        due("11: byte 121 is refused", x.feed('1'), FortyDesks.FULL);
        due("12: so the text ends too early", x.law(), -220);
        due("12: and the law is as it was", x.level(1), 46);
    }

    /** 120 bytes of a law, again and again on one object. */
    private static void longestInTurn() {
        FortyDesks x = listening();
        due("12: a short one", Check.law(x, "7"), 1);
        due("14: by it", x.level(1), 7);
        for (int last = 1; last <= 3; last++) {
            due("12: 120 bytes", Check.law(x, "!v" + "+1".repeat(58) + "+" + last), 1);
            due("14: by them", x.level(1), 58 + last);
        }
    }

    /** Two at desks side by side, VOICE 50 each: the level by a law is that of 1's words at 0's. */
    private static FortyDesks listening() {
        FortyDesks x = new FortyDesks();
        x.desk(0);
        x.desk(1);
        x.worker(500, 0, 20000);
        x.worker(500, 0, 20000);
        return x;
    }

    private static void level(String law, int want) {
        FortyDesks x = listening();
        due("12: law " + law, Check.law(x, law), 1);
        due("14: level by " + law, x.level(1), want);
        due("14: back, by " + law, x.level(10), want);
    }

    /** "LEVEL (0 .. 99, else the bound)." */
    private static void levels() {
        for (int n = 0; n <= 300; n++) {
            level(String.valueOf(n), Math.min(99, n));
            level("-" + n, 0);
        }
        level("9999", 99);
        level("-9999", 0);
        level("v+49", 99);
        level("v+50", 99);
        level("v-50", 0);
        level("v-51", 0);
        level("v-49", 1);
        level("v+48", 98);
    }

    /** "Ints that wrap": 4096*4096*128 is the least int. */
    private static void wraps() {
        String least = "4096*4096*128";
        level(least, 0);
        level(least + "-1", 99);
        level(least + "-1>0", 1);
        level("-(" + least + ")<0", 1);
        level("-(" + least + ")=" + least, 1);
        level(least + "*2+7", 7);
        level(least + "+" + least + "+8", 8);
        level("0-(" + least + ")=" + least, 1);
        level("(" + least + "-1)+1=" + least, 1);
        level(least + "/-1=" + least, 1);
        level(least + "%-1+5", 5);
        level(least + "/1<0", 1);
        level("(" + least + "-1)*(" + least + "-1)", 1);
        level("v*4096*4096*4096+9", 9);
    }

    /** "/ and % toward 0, by 0 they give 0." */
    private static void byZero() {
        String[] noughts = {"0", "(v-v)", "!v", "-0", "(d-1)", "k", "c", "0000", "(1>2)"};
        for (String nought : noughts) {
            level("7+v/" + nought, 7);
            level("7+v%" + nought, 7);
            level("7+0/" + nought, 7);
            level("v/" + nought + "?9;8", 8);
            level("v%" + nought + "|3", 1);
        }
        int[] parts = {-9, -8, -7, -1, 0, 1, 7, 8, 9};
        for (int a : parts) {
            for (int b : parts) {
                String one = a < 0 ? "(-" + -a + ")" : "" + a, other = b < 0 ? "-" + -b : "" + b;
                level("50+" + one + "/" + other, 50 + (b == 0 ? 0 : a / b));
                level("50+" + one + "%" + other, 50 + (b == 0 ? 0 : a % b));
            }
        }
        level("100/3/0+4", 4);
        level("9-9/0*5", 9);
    }

    /** "| & < = > ! give 1, 0." */
    private static void onesAndNoughts() {
        int[] values = {-2, -1, 0, 1, 2};
        for (int a : values) {
            String one = a < 0 ? "-" + -a : "" + a;
            level("5+!" + one, a == 0 ? 6 : 5);
            for (int b : values) {
                String other = b < 0 ? "-" + -b : "" + b;
                level("5+(" + one + "|" + other + ")", a != 0 || b != 0 ? 6 : 5);
                level("5+(" + one + "&" + other + ")", a != 0 && b != 0 ? 6 : 5);
                level("5+(" + one + "<" + other + ")", a < b ? 6 : 5);
                level("5+(" + one + "=" + other + ")", a == b ? 6 : 5);
                level("5+(" + one + ">" + other + ")", a > b ? 6 : 5);
            }
        }
        level("5|6|7", 1);
        level("5&6&7", 1);
        level("2&4", 1);
        level("1&2|0&3", 1);
        level("!5", 0);
        level("!!5", 1);
        level("-!0+2", 1);
    }

    /** "The first LINE without a first E, or whose first E is not 0, counts; none: 0." */
    private static void lines() {
        level("0", 0);
        level("0;9", 0);
        level("0?9", 0);
        level("0?9;0?8;0?7", 0);
        level("0?9;0?8;7", 7);
        level("0?9;0?8;7;6", 7);
        level("1?9;8", 9);
        level("-1?9;8", 9);
        level("0-1?9;8", 9);
        level("1?0;8", 0);
        level("0?9;5?4;3", 4);
        level("8;1?9", 8);
        level("v-50?9;8", 8);
        level("v-49?9;8", 9);
        level("4096*4096*256?9;8", 8);
        level("4096*4096*128?9;8", 9);
        level("0?1;".repeat(29) + "v", 50);
        level("0?1;".repeat(29) + "1?33", 33);
        level("0?1;".repeat(29) + "0?33", 0);
        level("0?1;".repeat(29) + "0?!1", 0);
        level("0?1;".repeat(29) + "1?!0", 1);
        level("0;".repeat(59) + "33", 0);
        level("33" + ";0".repeat(59), 33);
    }

    /** "Without a text: v - 4 d - 2 k + c." */
    private static void withoutAText() {
        for (int v = 0; v <= 99; v++) {
            FortyDesks x = new FortyDesks();
            x.desk(0);
            x.desk(2);
            x.screen(1, 9);
            x.worker(0, 0, 20000);
            x.worker(10 * v, 0, 20000);
            for (int c = 0; c <= 9; c++) {
                x.set(1, c);
                due("14: VOICE " + v + ", CEILING " + c, x.level(1), Math.max(0, Math.min(99, v - 8 - 18 + c)));
            }
        }
    }

    private static void faultsKeepTheLaw() {
        FortyDesks x = listening();
        due("12: an empty tape is no text", x.law(), -100);
        due("14: still without a text", x.level(1), 46);
        due("12: a law", Check.law(x, "33"), 1);
        due("14: by it", x.level(1), 33);
        for (String wrong : new String[] {"", "4?", "44444", "4;", ")", "((((((("}) {
            due("12: " + wrong, Check.law(x, wrong) < -99 ? 1 : 0, 1);
            due("39: the tape behind " + wrong, x.count(3), 0);
            due("14: the law behind " + wrong, x.level(1), 33);
        }
        due("12: another law", Check.law(x, "0?5"), 1);
        due("14: no line counts", x.level(1), 0);
    }
}
