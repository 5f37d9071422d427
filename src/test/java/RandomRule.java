import java.util.Random;

/** Random texts of RULES, some of them spoilt. */
final class RandomRule {
    private static final String[] NAMES =
        {"full", "burst", "run", "drop", "dead", "wind", "lake", "day", "height"};
    private static final String[] ACTS = {"siren", "work", "shut", "live"};
    private static final String[] SPOILT = {"if", "and", "or", "not", "siren", "wet", "longwords", "12345", "(", ")",
        "<", ">", "=", "+", "-", "$", "F", "7", "wind", "\u00e9", "\t", ""};

    private RandomRule() {
    }

    static String text(Random random) {
        StringBuilder text = new StringBuilder(ACTS[random.nextInt(4)]);
        blank(text, random, true);
        text.append("if");
        blank(text, random, true);
        if (random.nextInt(12) == 0) {
            repeat(text, random);
        }
        any(text, random, 0);
        while (random.nextInt(3) == 0) {
            spoil(text, random);
        }
        if (text.length() > 300) {
            text.setLength(300);
        }
        return text.toString();
    }

    private static void repeat(StringBuilder text, Random random) {
        String[] rows = {"not ", "(", "not (", "1+", "wind-", "1<2 and "};
        String row = rows[random.nextInt(rows.length)];
        int times = 5 + random.nextInt(30);
        for (int i = 0; i < times; i++) {
            text.append(row);
        }
    }

    private static void spoil(StringBuilder text, Random random) {
        int at = random.nextInt(text.length() + 1);
        if (random.nextBoolean()) {
            text.insert(at, SPOILT[random.nextInt(SPOILT.length)]);
        } else if (at < text.length()) {
            text.deleteCharAt(at);
        }
    }

    private static void blank(StringBuilder text, Random random, boolean must) {
        if (must || random.nextInt(3) == 0) {
            text.append(' ');
        }
    }

    private static void any(StringBuilder text, Random random, int deep) {
        all(text, random, deep);
        while (random.nextInt(4) == 0) {
            text.append(" or ");
            all(text, random, deep);
        }
    }

    private static void all(StringBuilder text, Random random, int deep) {
        one(text, random, deep);
        while (random.nextInt(4) == 0) {
            text.append(" and ");
            one(text, random, deep);
        }
    }

    private static void one(StringBuilder text, Random random, int deep) {
        while (random.nextInt(5) == 0) {
            text.append("not ");
        }
        if (deep < 12 && random.nextInt(4) == 0) {
            text.append("(");
            any(text, random, deep + 1);
            text.append(")");
            return;
        }
        sum(text, random);
        text.append("<>=".charAt(random.nextInt(3)));
        sum(text, random);
    }

    private static void sum(StringBuilder text, Random random) {
        term(text, random);
        while (random.nextInt(4) == 0) {
            text.append("+-".charAt(random.nextInt(2)));
            term(text, random);
        }
    }

    private static void term(StringBuilder text, Random random) {
        blank(text, random, false);
        if (random.nextBoolean()) {
            text.append(NAMES[random.nextInt(NAMES.length)]);
        } else {
            text.append(random.nextInt(random.nextInt(4) == 0 ? 10000 : 120));
        }
        blank(text, random, false);
    }
}
