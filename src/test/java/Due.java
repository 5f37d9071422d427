import java.util.NoSuchElementException;

/** Counts the answers that are not the ones that are due; a boolean counts 1 or 0. */
final class Due {
    private static int wrong = 0;
    private static int asked = 0;

    private Due() {
    }

    static void be(String what, long got, long due) {
        asked++;
        if (got != due) {
            wrong++;
            System.out.println(what + " answered " + got + ", due is " + due);
        }
    }

    static void be(String what, boolean got, boolean due) {
        be(what, got ? 1 : 0, due ? 1 : 0);
    }

    /** A call that is refused with NONE for a trouble. */
    static void refused(String what, LakeBreath x, long got, int trouble) {
        be(what, got, LakeBreath.NONE);
        be(what + ", trouble()", x.trouble(), trouble);
    }

    /** A call that is refused with false for a trouble. */
    static void denied(String what, LakeBreath x, boolean got, int trouble) {
        be(what, got, false);
        be(what + ", trouble()", x.trouble(), trouble);
    }

    /** A call that is not refused. */
    static void granted(String what, LakeBreath x, boolean got) {
        be(what, got, true);
        be(what + ", trouble()", x.trouble(), 0);
    }

    static void noSuchElement(String what, LakeBreath x, int i) {
        boolean thrown = false;
        try {
            x.planned(i);
        } catch (NoSuchElementException e) {
            thrown = e.getClass() == NoSuchElementException.class;
        }
        be(what + " throws NoSuchElementException", thrown, true);
    }

    /** Feeds a text, blanks behind it, and answers what the last feed() did. */
    static int feed(LakeBreath x, String text) {
        StringBuilder padded = new StringBuilder(text);
        while (padded.length() == 0 || padded.length() % 20 != 0) {
            padded.append(' ');
        }
        int answer = 0;
        for (int i = 0; i < padded.length(); i += 20) {
            answer = x.feed(four(padded, i), four(padded, i + 4), four(padded, i + 8), four(padded, i + 12),
                    four(padded, i + 16));
        }
        return answer;
    }

    private static int four(StringBuilder text, int at) {
        return text.charAt(at) << 24 | text.charAt(at + 1) << 16 | text.charAt(at + 2) << 8 | text.charAt(at + 3);
    }

    /** Feeds a text and makes it a RULE; THE TAPE must be empty ahead of it. */
    static int rule(LakeBreath x, String text) {
        feed(x, text);
        return x.rule(text.length());
    }

    /** A text that is a FAULT at a place. */
    static void faulty(LakeBreath x, String text, int fault, int place) {
        feed(x, text);
        refused("rule of '" + text + "'", x, x.rule(text.length()), 4);
        be("fault() of '" + text + "'", x.fault(), fault);
        be("where() of '" + text + "'", x.where(), place);
    }

    static void end() {
        System.out.println(asked + " answers asked for, " + wrong + " not as due");
        if (wrong != 0) {
            System.exit(1);
        }
    }
}
