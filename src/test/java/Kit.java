import java.util.NoSuchElementException;

/** What the tests share: texts are fed, answers are held against what is due. */
final class Kit {
    private static int wrong = 0;
    private static int asked = 0;
    private static String about = "";

    private Kit() {
    }

    static void due(String call, long got, long want) {
        asked++;
        if (got != want) {
            wrong++;
            if (!about.isEmpty()) {
                System.out.println("\"" + about + "\" does not hold:");
            }
            System.out.println(call + " answered " + got + ", due is " + want);
        }
    }

    static void due(String call, boolean got, boolean want) {
        due(call, got ? 1 : 0, want ? 1 : 0);
    }

    /** The sentence of the document that is tested now; "": none. */
    static void about(String sentence) {
        about = sentence;
    }

    static int asked() {
        return asked;
    }

    static void end() {
        System.out.println(wrong == 0 ? asked + " answers are as due" : wrong + " of " + asked + " are not as due");
        if (wrong != 0) {
            System.exit(1);
        }
    }

    static int word(String text, int at) {
        int word = 0;
        for (int i = at; i < at + 4; i++) {
            word = word << 8 | (i < text.length() ? text.charAt(i) & 255 : 0);
        }
        return word;
    }

    /** The TAPE holds this text alone then. */
    static void feed(NearlyBought x, String text) {
        x.end(0);
        for (int at = 0; at < text.length(); at += 20) {
            x.feed(word(text, at), word(text, at + 4), word(text, at + 8), word(text, at + 12), word(text, at + 16));
        }
        if (x.count(4) != text.length()) {
            throw new IllegalStateException("not fed: " + text);
        }
    }

    static int fault(NearlyBought x, int sort, String text) {
        feed(x, text);
        return x.fault(sort);
    }

    static int text(NearlyBought x, int sort, String text) {
        feed(x, text);
        return x.text(sort);
    }

    static NearlyBought city(String text) {
        NearlyBought x = new NearlyBought();
        if (text(x, 0, text) < 1) {
            throw new IllegalStateException("no CITY: " + text);
        }
        return x;
    }

    /** The LAW is told, and it holds. */
    static void law(NearlyBought x, String text) {
        int number = text(x, 1, text);
        if (number < 0 || !x.law(number)) {
            throw new IllegalStateException("no LAW: " + text);
        }
    }

    static int day(NearlyBought x, String text) {
        int number = text(x, 2, text);
        if (number < 0) {
            throw new IllegalStateException("no DAY: " + text);
        }
        return number;
    }

    static boolean throwsNoSuch(NearlyBought x, int buyer, int what) {
        try {
            x.buyer(buyer, what);
            return false;
        } catch (NoSuchElementException e) {
            return true;
        }
    }
}
