/** What the tests share: telling a cloth, comparing answers, ending with the right exit code. */
final class Check {
    private static int wrong = 0;
    private static int made = 0;
    private static String sentence = "";

    private Check() { }

    /** The sentence of the document that the answers from here on are held against; told with each wrong one. */
    static void about(String told) {
        sentence = told + ": ";
    }

    static void due(String call, long got, long want) {
        made++;
        if (got != want) {
            wrong++;
            System.out.println(sentence + call + " answered " + got + ", due is " + want);
        }
    }

    static void due(String call, boolean got, boolean want) {
        due(call, got ? 1 : 0, want ? 1 : 0);
    }

    /** A call's answer together with the trouble that is due behind it. */
    static void due(TwoWeavers x, String call, long got, long want, int trouble) {
        due(call, got, want);
        due("trouble() behind " + call, x.trouble(), trouble);
    }

    static void due(TwoWeavers x, String call, boolean got, boolean want, int trouble) {
        due(x, call, got ? 1 : 0, want ? 1 : 0, trouble);
    }

    /** Feeds a text, with blanks behind it up to twenty bytes, and makes it the cloth. */
    static int tell(TwoWeavers x, String text) {
        feed(x, text);
        return x.cloth(text.length());
    }

    static void feed(TwoWeavers x, String text) {
        for (int from = 0; from < text.length(); from += 20) {
            x.feed(four(text, from), four(text, from + 4), four(text, from + 8), four(text, from + 12),
                four(text, from + 16));
        }
    }

    private static int four(String text, int from) {
        int number = 0;
        for (int i = from; i < from + 4; i++) {
            number = number << 8 | (i < text.length() ? text.charAt(i) & 255 : ' ');
        }
        return number;
    }

    static TwoWeavers told(String text) {
        TwoWeavers x = new TwoWeavers();
        int kinds = tell(x, text);
        if (kinds < 0) {
            due("fault() of " + text + " at " + x.where(), x.fault(), 0);
        }
        return x;
    }

    /** A text that is a cloth with so many kinds of rows. */
    static void fine(String text, int kinds) {
        TwoWeavers x = new TwoWeavers();
        due(x, "cloth of " + text, tell(x, text), kinds, 0);
        due("fault() of " + text, x.fault(), 0);
        due("where() of " + text, x.where(), -1);
    }

    /** A text that is refused for a fault at a place. */
    static void faulty(String text, int fault, int place) {
        TwoWeavers x = new TwoWeavers();
        due(x, "cloth of " + text, tell(x, text), -1, 4);
        due("fault() of " + text, x.fault(), fault);
        due("where() of " + text, x.where(), place);
    }

    /** The fault is at what stands behind the bar of the text; the bar is taken out. */
    static void faultAtBar(String text, int fault) {
        faulty(text.replace("|", ""), fault, text.indexOf('|'));
    }

    /** The row that led() tells, or -9 if it throws what it may throw. */
    static int led(TwoWeavers x, int i) {
        try {
            return x.led(i);
        } catch (java.util.NoSuchElementException none) {
            return -9;
        }
    }

    static void end() {
        System.out.println(wrong == 0 ? made + " answers are as due" : wrong + " of " + made + " are not as due");
        if (wrong != 0 || made == 0) {
            System.exit(1);
        }
    }
}
