/** Promises 16 to 23: the tape, rules and their faults, and what the rules say. */
public final class RulesTest {
    public static void main(String[] args) {
        feed();
        rule();
        forms();
        words();
        many();
        faultAndWhere();
        repeal();
        wind();
        says();
        names();
        sums();
        binding();
        may();
        Due.end();
    }

    private static void feed() {
        LakeBreath x = new LakeBreath();
        for (int i = 1; i <= 15; i++) {
            Due.be("feed", x.feed(0, 0, 0, 0, 0), 20 * i);
        }
        Due.be("feed beyond 300", x.feed(0, 0, 0, 0, 0), -1);
        Due.be("none comes", x.count(9), 300);
        Due.be("feed tells no trouble", x.trouble(), 0);
        Due.refused("300 bytes that are no TOKENS", x, x.rule(300), 4);
        Due.be("THE TAPE is empty", x.count(9), 0);
        Due.be("feed anew", x.feed(0, 0, 0, 0, 0), 20);
        LakeBreath y = new LakeBreath();
        // The highest byte of each number comes first; bytes over 127 are no TOKENS.
        y.feed(0x6c697665, 0x20696620, 0x313d31e9, 0x20202020, 0x20202020);
        Due.refused("a byte over 127", y, y.rule(20), 4);
        Due.be("its place", y.where(), 11);
    }

    private static void rule() {
        LakeBreath x = new LakeBreath();
        Due.refused("rule of more than there is", x, x.rule(1), 2);
        Due.refused("rule of fewer than none", x, x.rule(-1), 2);
        Due.feed(x, "siren if 1=1 live if 1=2");
        Due.refused("41 of 40", x, x.rule(41), 2);
        Due.be("THE TAPE stays", x.count(9), 40);
        Due.be("the first bytes", x.rule(12), 0);
        Due.be("all the rest is gone", x.count(9), 0);
        Due.be("trouble", x.trouble(), 0);
        Due.be("it is the siren's", x.says(0, 0), 1);
        Due.be("not live's", x.may(0), 1);
        for (int i = 1; i < 16; i++) {
            Due.be("rule " + i, Due.rule(x, "live if 1=1"), i);
        }
        Due.refused("a 17th", x, Due.rule(x, "live if 1=1"), 3);
        Due.be("without a FAULT", x.fault(), 0);
        Due.be("RULES", x.count(1), 16);
        Due.be("THE TAPE is empty", x.count(9), 0);
        Due.refused("4 ahead of 3", x, Due.rule(x, "live if 1=1 or"), 4);
        Due.be("place", x.where(), 14);
    }

    private static void forms() {
        LakeBreath x = new LakeBreath();
        Due.refused("an empty text", x, x.rule(0), 4);
        Due.be("its fault", x.fault(), 1);
        Due.be("its place", x.where(), 0);
        Due.faulty(x, "   ", 1, 3);
        Due.faulty(x, "siren", 1, 5);
        Due.faulty(x, "siren  ", 1, 7);
        Due.faulty(x, "siren if", 1, 8);
        Due.faulty(x, "siren wind = 1", 1, 6);
        Due.faulty(x, "siren wet = 1", 1, 6);
        Due.faulty(x, "( if wind = 1", 1, 0);
        Due.faulty(x, "7 if wind = 1", 1, 0);
        Due.faulty(x, "siren if = 1", 1, 9);
        Due.faulty(x, "siren if wind 1", 1, 14);
        Due.faulty(x, "siren if wind = 1 wet", 1, 18);
        Due.faulty(x, "siren if wind wet", 1, 14);
        Due.faulty(x, "siren if wind = 1 = 1", 1, 18);
        Due.faulty(x, "siren if wind = 1 )", 1, 18);
        Due.faulty(x, "siren if (wind = 1", 1, 18);
        Due.faulty(x, "siren if (wind = 1))", 1, 19);
        Due.faulty(x, "siren if (wind) = 1", 1, 14);
        Due.faulty(x, "siren if wind = (1)", 1, 16);
        Due.faulty(x, "siren if wind + = 1", 1, 16);
        Due.faulty(x, "siren if wind = - 1", 1, 16);
        Due.faulty(x, "siren if wind = 1 and", 1, 21);
        Due.faulty(x, "siren if wind = 1 or and 1 = 1", 1, 21);
        Due.faulty(x, "siren if wind = 1 not wind = 2", 1, 18);
        Due.faulty(x, "siren if ()", 1, 10);
        Due.faulty(x, "siren if wind=1 if wind=2", 1, 16);
        Due.faulty(x, "siren if (wind=1) + 1 = 2", 1, 18);
        Due.faulty(x, "siren if wind = 1and$", 1, 20);
        Due.faulty(x, "siren if wind * 2 = 1", 1, 14);
        Due.faulty(x, "siren\tif wind = 1", 1, 5);
        Due.faulty(x, "Siren if wind = 1", 1, 0);
        Due.faulty(x, "siren if 12345 = 1", 1, 9);
        Due.faulty(x, "siren if abcdefghi = 1", 1, 9);
        Due.faulty(x, "abcdefghi if 1 = 1", 1, 0);
        Due.be("nothing came of them", x.count(1), 0);
        Due.be("blanks mean nothing", Due.rule(x, "  siren   if(wind=1)and not(1<2)or 0001>wind  "), 0);
    }

    private static void words() {
        LakeBreath x = new LakeBreath();
        Due.faulty(x, "sirens if wind = 1", 2, 0);
        Due.faulty(x, "  wind if wind = 1", 2, 2);
        Due.faulty(x, "abcdefgh", 2, 0);
        Due.faulty(x, "if wind = 1", 1, 0);
        Due.faulty(x, "and if wind = 1", 1, 0);
        Due.faulty(x, "or if wind = 1", 1, 0);
        Due.faulty(x, "not if wind = 1", 1, 0);
        Due.faulty(x, "live if winds = 1", 2, 8);
        Due.faulty(x, "live if live = 1", 2, 8);
        Due.faulty(x, "live if abcdefgh = 1", 2, 8);
        Due.faulty(x, "live if wind = wet", 2, 15);
        Due.faulty(x, "live if wind + wet = 1", 2, 15);
        Due.faulty(x, "live if not wet = 1", 2, 12);
        Due.faulty(x, "live if ( wet = 1)", 2, 10);
        Due.faulty(x, "live if 1=1 and wet = 1", 2, 16);
        Due.faulty(x, "live if 1=1 or wet = 1", 2, 15);
        Due.faulty(x, "live if notwet = 1", 2, 8);
        Due.faulty(x, "live if if = 1", 1, 8);
        Due.faulty(x, "live if or = 1", 1, 8);
        Due.faulty(x, "live if and = 1", 1, 8);
        Due.faulty(x, "live if wind = not 1", 1, 15);
        Due.faulty(x, "live if wind - not = 1", 1, 15);
        Due.faulty(x, "live if wind + if = 1", 1, 15);
        Due.faulty(x, "live if wet $", 2, 8);
        Due.faulty(x, "live if zzz = 1", 2, 8);
        for (String word : new String[] {"gull", "curst", "sun", "crop", "lead", "kind", "bake", "may", "weight",
            "fuller", "bursts", "ru", "dro", "deaf", "winx", "lakes", "dax", "heigh"}) {
            Due.faulty(x, "live if " + word + " = 1", 2, 8);
        }
        for (String word : new String[] {"sired", "wore", "shot", "give", "jive", "liven"}) {
            Due.faulty(x, word + " if 1 = 1", 2, 0);
        }
        Due.faulty(x, "wet", 2, 0);
        Due.faulty(x, "abcdefghi", 1, 0);
        Due.faulty(x, "live if 5wet", 1, 9);
        Due.be("a WHOLE and a NAME that touch", Due.rule(x, "live if not wind<5and 3=3"), 0);
    }

    private static String times(String row, int n) {
        StringBuilder text = new StringBuilder();
        for (int i = 0; i < n; i++) {
            text.append(row);
        }
        return text.toString();
    }

    private static void many() {
        LakeBreath x = new LakeBreath();
        Due.be("30 of them", Due.rule(x, "live if " + times("1+", 28) + "1=wind"), 0);
        Due.faulty(x, "live if " + times("1+", 28) + "1=1+wind", 3, 68);
        Due.faulty(x, "live if " + times("1=1 and ", 15) + "day=1", 3, 128);
        Due.faulty(x, "live if " + times("1=1 and ", 15) + "wet=1", 2, 128);
        Due.faulty(x, "live if " + times("1=1 and ", 15) + "or", 1, 128);
        Due.faulty(x, "live if " + times("1=1 and ", 15) + "12345", 1, 128);
        Due.be("eight ( open", Due.rule(x, "live if " + times("(", 8) + "1=1" + times(")", 8)), 1);
        Due.be("nine of them, eight open", Due.rule(x, "live if " + times("(", 8) + "1=1) and (2=2" + times(")", 8)), 2);
        Due.faulty(x, "live if " + times("(", 9) + "1=1" + times(")", 9), 3, 16);
        Due.faulty(x, "live if " + times("(", 8) + "1=1 and not (", 3, 28);
        Due.faulty(x, "live if " + times("(", 8) + "1=1(", 1, 19);
        Due.be("eight nots", Due.rule(x, "work if " + times("not ", 8) + "1=1"), 3);
        Due.be("they hold", x.says(0, 2), 1);
        Due.faulty(x, "live if " + times("not ", 9) + "1=1", 3, 40);
        Due.be("nots behind others", Due.rule(x, "work if " + times("not ", 8) + "(" + times("not ", 7) + "1=1)"), 4);
        Due.be("fifteen nots", x.says(0, 2), 0);
        Due.be("eight and eight", Due.rule(x, "live if " + times("not ", 8) + "1=1 and " + times("not ", 8) + "1=1"), 5);
        Due.faulty(x, "live if " + times("not ", 8) + "1=1 and " + times("not ", 9) + "1=1", 3, 80);
    }

    private static void faultAndWhere() {
        LakeBreath x = new LakeBreath();
        Due.be("fault without one", x.fault(), 0);
        Due.be("where without one", x.where(), -1);
        Due.faulty(x, "live if wet = 1", 2, 8);
        x.of(0, 0, 0);
        x.says(0, 0);
        Due.be("where stays for calls that aren't refused", x.where(), 8);
        Due.refused("rule refused by 2", x, x.rule(1), 2);
        Due.be("the FAULT stays", x.fault(), 2);
        Due.be("where doesn't", x.where(), -1);
        Due.faulty(x, "live if wind = 1 = 1", 1, 17);
        x.wind(1);
        Due.be("another call", x.where(), -1);
        Due.be("the FAULT stays", x.fault(), 1);
        Due.be("a RULE", Due.rule(x, "live if 1 = 1"), 0);
        Due.be("no FAULT", x.fault(), 0);
        Due.be("no place", x.where(), -1);
    }

    private static void repeal() {
        LakeBreath x = new LakeBreath();
        Due.denied("repeal none", x, x.repeal(0), 1);
        Due.denied("repeal none", x, x.repeal(-1), 1);
        Due.rule(x, "siren if 1=1");
        Due.rule(x, "shut if 1=1");
        Due.rule(x, "live if 1=2");
        Due.denied("repeal 3 of 3", x, x.repeal(3), 1);
        Due.granted("repeal", x, x.repeal(0));
        Due.be("it is gone", x.says(0, 0), 0);
        Due.be("the next stays", x.says(0, 1), 1);
        Due.be("and the next", x.may(0), 0);
        Due.granted("one number less", x, x.repeal(1));
        Due.be("live is gone", x.may(0), 1);
        Due.be("RULES", x.count(1), 1);
        Due.be("the next number", Due.rule(x, "live if 1=1"), 1);
        Due.granted("the first", x, x.repeal(0));
        Due.be("shut is gone", x.says(0, 1), 0);
        LakeBreath y = new LakeBreath();
        for (int i = 0; i < 16; i++) {
            Due.rule(y, i == 15 ? "siren if 1=1" : "live if 1=1");
        }
        Due.granted("one of 16", y, y.repeal(3));
        Due.be("the last stays", y.says(0, 0), 1);
        Due.be("room again", Due.rule(y, "shut if 1=1"), 15);
        Due.granted("the last of 16", y, y.repeal(15));
        Due.be("it is gone", y.says(0, 1), 0);
        Due.be("not another", y.says(0, 0), 1);
    }

    private static void wind() {
        LakeBreath x = new LakeBreath();
        Due.rule(x, "siren if wind > 98");
        Due.rule(x, "shut if wind = 0");
        Due.be("wind at first", x.says(0, 1), 1);
        Due.denied("wind below", x, x.wind(-1), 2);
        Due.denied("wind above", x, x.wind(100), 2);
        Due.be("wind stays", x.says(0, 1), 1);
        Due.granted("wind most", x, x.wind(99));
        Due.be("wind 99", x.says(1, 0), 1);
        Due.granted("wind least", x, x.wind(0));
        Due.be("wind 0", x.says(1, 1), 1);
    }

    private static void says() {
        LakeBreath x = new LakeBreath();
        Due.be("SIREN without RULES", x.says(0, 0), 0);
        Due.be("SHUT without RULES", x.says(0, 1), 0);
        Due.be("work without RULES", x.says(0, 2), 1);
        Due.be("says lake", x.says(2, 0), -1);
        Due.be("says lake", x.says(-1, 0), -1);
        Due.be("says what", x.says(0, 3), -1);
        Due.be("says what", x.says(0, -1), -1);
        Due.rule(x, "siren if lake = 1");
        Due.rule(x, "siren if wind = 9");
        Due.rule(x, "work if wind < 50");
        Due.rule(x, "work if lake = 0 or wind < 20");
        Due.rule(x, "shut if wind = 7 and lake = 0");
        Due.be("some RULE of siren", x.says(0, 0), 0);
        Due.be("some RULE of siren", x.says(1, 0), 1);
        x.wind(9);
        Due.be("another RULE of siren", x.says(0, 0), 1);
        x.wind(30);
        Due.be("all of work", x.says(0, 2), 1);
        Due.be("not all of work", x.says(1, 2), 0);
        x.wind(50);
        Due.be("not all of work", x.says(0, 2), 0);
        x.wind(7);
        Due.be("SHUT", x.says(0, 1), 1);
        Due.be("SHUT, so no work", x.says(0, 2), 0);
        Due.be("the other isn't", x.says(1, 1), 0);
        Due.be("so there is work", x.says(1, 2), 1);
    }

    /** What a NAME is worth for a LAKE. */
    private static void worth(LakeBreath x, String name, int lake, int due) {
        int number = Due.rule(x, "siren if " + name + " = " + due);
        Due.be(name + " = " + due, x.says(lake, 0), 1);
        x.repeal(number);
    }

    private static void names() {
        LakeBreath x = new LakeBreath();
        worth(x, "full", 0, 100);
        worth(x, "burst", 0, 999);
        worth(x, "run", 0, 0);
        worth(x, "drop", 0, 0);
        worth(x, "dead", 0, 10);
        worth(x, "lake", 1, 1);
        worth(x, "height", 1, 0);
        x.pipe(0, 9, 1, 0);
        x.pipe(0, 9, 1, 0);
        x.pipe(1, 9, 1, 0);
        x.start(1);
        worth(x, "run", 0, 1);
        worth(x, "run", 1, 0);
        x.set(1, 1, 9999);
        worth(x, "drop", 1, 9999);
        worth(x, "drop", 0, 0);
        x.reading(0, 4, 10);
        x.reading(0, 9, 10000);
        worth(x, "dead", 0, 8);
        worth(x, "dead", 1, 10);
        x.height(0, 40);
        worth(x, "height", 0, 0);
        x.pass(7);
        worth(x, "day", 0, 7);
        worth(x, "dead", 0, 10);
        for (int i = 0; i < 10; i++) {
            x.reading(0, i, 100 * (i + 1));
        }
        worth(x, "full", 0, 10);
        x.layer(0, 9, 9000, 0, 0);
        worth(x, "full", 0, 10);
        x.layer(0, 9, 20000, 0, 0);
        worth(x, "burst", 0, 1);
        worth(x, "burst", 1, 999);
    }

    private static void sums() {
        LakeBreath x = new LakeBreath();
        x.wind(30);
        String[] so = {"wind + 5 - 10 = 25", "1 - 2 - 3 < 0", "1 - 2 - 3 = 0 - 4", "9 - 2 + 3 = 10", "wind > 29",
            "29 < wind", "9999 + 9999 > 9999", "0000 = 0", "0030 = wind", "wind - wind - wind + wind = 0"};
        for (String text : so) {
            int number = Due.rule(x, "siren if " + text);
            Due.be(text, x.says(0, 0), 1);
            x.repeal(number);
        }
        String[] notSo = {"wind > 30", "wind < 30", "30 > wind", "wind = 29", "wind + 1 = 30", "1 - 2 > 0"};
        for (String text : notSo) {
            int number = Due.rule(x, "siren if " + text);
            Due.be(text, x.says(0, 0), 0);
            x.repeal(number);
        }
    }

    private static void binding() {
        LakeBreath x = new LakeBreath();
        String t = "1=1";
        String f = "1=2";
        String[] so = {t + " or " + f + " and " + f, f + " and " + f + " or " + t, "not " + f + " or " + t,
            "not " + t + " or " + t, "not (" + t + " and " + f + ")", "not not " + t, "not " + f + " and " + t,
            "(" + f + " or " + t + ") and (" + t + ")", t + " and not " + f + " and not (" + f + " or not " + t + ")"};
        for (String text : so) {
            int number = Due.rule(x, "siren if " + text);
            Due.be(text, x.says(0, 0), 1);
            x.repeal(number);
        }
        String[] notSo = {"(" + t + " or " + f + ") and " + f, "not (" + f + " or " + t + ")", "not " + t + " and " + f,
            "not not " + f, "not not not " + t, f + " or " + f, t + " and " + f};
        for (String text : notSo) {
            int number = Due.rule(x, "siren if " + text);
            Due.be(text, x.says(0, 0), 0);
            x.repeal(number);
        }
    }

    private static void may() {
        LakeBreath x = new LakeBreath();
        Due.be("may cell", x.may(-1), -1);
        Due.be("may cell", x.may(400), -1);
        Due.be("may without RULES", x.may(399), 1);
        Due.rule(x, "live if height > 19");
        Due.be("too low", x.may(399), 0);
        x.height(399, 20);
        Due.be("high enough", x.may(399), 1);
        Due.be("another", x.may(398), 0);
        LakeBreath y = new LakeBreath();
        Due.rule(y, "live if lake = 1");
        Due.be("not for LAKE 0", y.may(0), 0);
        y.repeal(0);
        Due.rule(y, "live if lake = 0");
        Due.be("not for LAKE 1", y.may(0), 0);
        Due.rule(x, "live if drop < 5 or height > 30");
        Due.be("all of live", x.may(399), 1);
        x.set(1, 1, 5);
        Due.be("not for each LAKE", x.may(399), 0);
        x.height(399, 31);
        Due.be("higher still", x.may(399), 1);
        Due.rule(x, "shut if 1 = 1");
        Due.rule(x, "work if 1 = 2");
        Due.be("other RULES are of no matter", x.may(399), 1);
    }
}
