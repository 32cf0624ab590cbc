/** Helps the tests: texts for the tape, and answers beside those that are due. */
final class Texts {
    private static int wrong = 0;
    private static String part = "";

    private Texts() {
    }

    /** Feeds a text, filled up with blanks to a multiple of twenty bytes; answers its length. */
    static int feed(CoveredSigns signs, String text) {
        int fed = (text.length() + 19) / 20 * 20;
        for (int at = 0; at < fed; at += 20) {
            signs.feed(number(text, at), number(text, at + 4), number(text, at + 8), number(text, at + 12), number(text, at + 16));
        }
        return text.length();
    }

    static int number(String text, int at) {
        int number = 0;
        for (int i = at; i < at + 4; i++) {
            number = number << 8 | (i < text.length() ? text.charAt(i) & 255 : ' ');
        }
        return number;
    }

    static int alphabet(CoveredSigns signs, String text) {
        return signs.alphabet(feed(signs, text));
    }

    static int rule(CoveredSigns signs, String text) {
        return signs.rule(feed(signs, text));
    }

    static CoveredSigns with(String alphabet, String rule) {
        CoveredSigns signs = new CoveredSigns();
        if (alphabet(signs, alphabet) < 0) {
            complain("alphabet " + alphabet + " has fault at " + signs.fault());
        }
        if (!rule.isEmpty() && rule(signs, rule) < 0) {
            complain("rule " + rule + " has fault at " + signs.fault());
        }
        return signs;
    }

    interface Call {
        int answer();
    }

    static void about(String name) {
        part = name;
    }

    static void complain(String text) {
        wrong++;
        if (wrong <= 40) {
            System.out.println(part + ": " + text);
        }
    }

    static void due(String call, int got, int want) {
        if (got != want) {
            complain(call + " answered " + got + ", due is " + want);
        }
    }

    static void dueThrow(String call, Class<?> want, Call made) {
        String got = outcome(made);
        if (!got.equals("throws " + want.getName())) {
            complain(call + " " + got + ", due is throws " + want.getName());
        }
    }

    /** An answer, or the very class of what was thrown. */
    static String outcome(Call made) {
        try {
            return "answers " + made.answer();
        } catch (RuntimeException e) {
            return "throws " + e.getClass().getName();
        }
    }

    static void end() {
        if (wrong > 0) {
            System.out.println(wrong + " wrong");
            System.exit(1);
        }
    }
}
