/** Terms IV and promises 16 to 23, sentence by sentence: THE TAPE, TOKENS, FAULTS and what RULES say at their edges. */
public final class EdgesOfRulesTest {
    /** TOKENS, and at last a byte, a row of letters and one of digits that begin none. */
    private static final String[] TOKENS = {"siren", "wind", "wet", "if", "and", "or", "not", "5", "<", ">", "=", "+",
        "-", "(", ")", "$", "abcdefghi", "12345"};

    /** What is due behind a text, TOKEN by TOKEN: . it goes on, else the FAULT. */
    private static final String[][] BEHIND = {
        {"                    ", ".22111111111111111"},
        {"live                ", "111.11111111111111"},
        {"live if             ", "2.2111..11111.1111"},
        {"live if not         ", "2.2111..11111.1111"},
        {"live if (           ", "2.2111..11111.1111"},
        {"live if ( not       ", "2.2111..11111.1111"},
        {"live if 1=1 and     ", "2.2111..11111.1111"},
        {"live if 1=1 or      ", "2.2111..11111.1111"},
        {"live if (1=1) and   ", "2.2111..11111.1111"},
        {"live if 1 +         ", "2.21111.1111111111"},
        {"live if wind -      ", "2.21111.1111111111"},
        {"live if 1 <         ", "2.21111.1111111111"},
        {"live if 1 >         ", "2.21111.1111111111"},
        {"live if 1 =         ", "2.21111.1111111111"},
        {"live if 1 = wind +  ", "2.21111.1111111111"},
        {"live if (1 = 2 -    ", "2.21111.1111111111"},
        {"live if 1           ", "11111111.....11111"},
        {"live if wind        ", "11111111.....11111"},
        {"live if 1 + day     ", "11111111.....11111"},
        {"live if not (1      ", "11111111.....11111"},
        {"live if 1 = 1       ", "1111..11111..11111"},
        {"live if 1 = 1 + lake", "1111..11111..11111"},
        {"live if (1 = 1      ", "1111..11111..1.111"},
        {"live if (1 = 1)     ", "1111..111111111111"},
        {"live if ((1 = 1)    ", "1111..11111111.111"},
    };

    public static void main(String[] args) {
        feed();
        feedRoom();
        behind();
        ends();
        everyByte();
        runs();
        cut();
        blanks();
        terms();
        opens();
        nots();
        leastNumber();
        numberOfBytes();
        nothingLeft();
        room();
        faultAndWhere();
        repeal();
        namesAtEdges();
        height();
        says();
        signs();
        Due.end();
    }

    private static LakeBreath on(String text) {
        LakeBreath x = new LakeBreath();
        Due.feed(x, text);
        return x;
    }

    private static void faulty(String text, int fault, int place) {
        Due.faulty(new LakeBreath(), text, fault, place);
    }

    private static void good(String text) {
        Due.be("P17: rule of '" + text + "'", on(text).rule(text.length()), 0);
    }

    private static String times(String row, int n) {
        return row.repeat(n);
    }

    /** Whether a text of what a RULE asks for holds of LAKE 0. */
    private static int so(LakeBreath x, String text) {
        int number = Due.rule(x, "siren if " + text);
        int answer = number < 0 ? -9 : x.says(0, 0);
        x.repeal(number);
        return answer;
    }

    private static void feed() {
        for (int i = 0; i < 20; i++) {
            for (int bad : new int[] {0, 1, 31, 33, 127, 128, 200, 255}) {
                int[] n = {0x20202020, 0x20202020, 0x20202020, 0x20202020, 0x20202020};
                int shift = 24 - 8 * (i % 4);
                n[i / 4] = n[i / 4] & ~(255 << shift) | bad << shift;
                LakeBreath x = new LakeBreath();
                Due.be("P16: twenty bytes", x.feed(n[0], n[1], n[2], n[3], n[4]), 20);
                x.rule(20);
                Due.be("P16: the highest first, " + bad + " at " + i, x.where(), i);
            }
        }
        LakeBreath x = new LakeBreath();
        Due.be("P16: the smallest ints", x.feed(Edges.LEAST, Edges.LEAST, Edges.LEAST, Edges.LEAST, Edges.LEAST), 20);
        Due.be("P16: the largest ints", x.feed(Edges.MOST, Edges.MOST, Edges.MOST, Edges.MOST, Edges.MOST), 40);
        Due.be("P16: behind THE TAPE", x.feed(-1, -1, -1, -1, -1), 60);
        x.rule(60);
        Due.be("P16: 128 begins no TOKEN", x.where(), 0);
        Due.feed(x, "live if 1=1 and 2=2 and 3=3");
        Due.be("P16: then what came behind", x.rule(27), 0);
    }

    private static void feedRoom() {
        LakeBreath x = new LakeBreath();
        Due.be("P37: nothing on THE TAPE", x.count(9), 0);
        for (int i = 1; i <= 15; i++) {
            Due.be("P16: how many it has", x.feed(0x20202020, 0x20202020, 0x20202020, 0x20202020, 0x20202020), 20 * i);
            Due.be("P37: bytes of THE TAPE", x.count(9), 20 * i);
        }
        x.pass(0);
        Due.be("P16: more than 300", x.feed(1, 1, 1, 1, 1), -1);
        Due.be("P16: none comes", x.count(9), 300);
        Due.be("P16: it tells no trouble", x.trouble(), 2);
        x.rule(300);
        Due.be("P16: 300 blanks, none of what was refused", x.where(), 300);
        Due.be("P16: room again", x.feed(0, 0, 0, 0, 0), 20);
        LakeBreath y = on("live if 1=1" + times(" ", 286) + "or$");
        Due.be("P17: all 300 bytes", y.rule(300), -1);
        Due.be("P19: the last of them", y.where(), 299);
        LakeBreath z = on("live if 1=1" + times(" ", 280) + "  and 1=1");
        Due.be("P17: a RULE of 300 bytes", z.rule(300), 0);
    }

    private static void behind() {
        for (String[] row : BEHIND) {
            String text = row[0].trim();
            for (int i = 0; i < TOKENS.length; i++) {
                char due = row[1].charAt(i);
                String whole = text + " " + TOKENS[i];
                if (due == '.') {
                    faulty(whole + " $", 1, whole.length() + 1);
                } else {
                    faulty(whole, due - '0', text.length() + 1);
                    faulty(whole + " $", due - '0', text.length() + 1);
                }
            }
        }
    }

    /** The end: a FAULT at its place, but behind a whole RULE. */
    private static void ends() {
        for (String[] row : BEHIND) {
            String text = row[0].trim();
            boolean whole = text.contains("=") && "1)e".indexOf(text.charAt(text.length() - 1)) >= 0
                    && text.indexOf('(') == text.lastIndexOf('(') && (text.indexOf('(') < 0 || text.endsWith(")"));
            for (int blanks = 0; blanks < 3; blanks++) {
                if (whole) {
                    good(text + times(" ", blanks));
                } else {
                    faulty(text + times(" ", blanks), 1, text.length() + blanks);
                }
            }
        }
    }

    private static void everyByte() {
        for (int b = 0; b < 256; b++) {
            boolean letter = b >= 'a' && b <= 'z';
            boolean one = b == ' ' || b >= '0' && b <= '9' || b == '(';
            faulty("live if " + (char) b + "$", letter ? 2 : 1, one ? 9 : 8);
            faulty((char) b + "$", letter ? 2 : 1, b == ' ' ? 1 : 0);
            boolean goesOn = b == ' ' || b >= '0' && b <= '9' || b == '+' || b == '-';
            faulty("live if 1=1" + (char) b + "$", 1, goesOn ? 12 : 11);
        }
    }

    private static void runs() {
        faulty("a", 2, 0);
        faulty("abcdefgh", 2, 0);
        faulty("abcdefghi", 1, 0);
        faulty("liveliveliveliv", 1, 0);
        faulty("live if abcdefgh = 1", 2, 8);
        faulty("live if abcdefghi = 1", 1, 8);
        faulty("live if fullfull = 1", 2, 8);
        faulty("live if fullfullf = 1", 1, 8);
        good("live if 0 = 0000");
        good("live if 9 = 9999");
        faulty("live if 00000 = 0", 1, 8);
        faulty("live if 0 = 99999", 1, 12);
        faulty("live if 0 = 0123456789", 1, 12);
        Due.be("P17: 0007 is 7", so(new LakeBreath(), "0007 = 7 and 7 = 007"), 1);
        Due.be("P17: 9999 is the most", so(new LakeBreath(), "9999 > 9998 and 9999 = 9990 + 9"), 1);
        // What stands together is one; letters beside digits are two.
        good("live if5=5and 4=4or 3=3");
        faulty("liveif 1=1", 2, 0);
        faulty("live ifnot 1=1", 1, 5);
        faulty("live if 1=1 andnot 1=1", 1, 12);
        faulty("live if notwind=1", 2, 8);
        faulty("live if wind5=1", 1, 12);
        faulty("live if 5wind=1", 1, 9);
        faulty("live if 12 34=1", 1, 11);
        faulty("live if wi nd=1", 2, 8);
        faulty("li ve if 1=1", 2, 0);
    }

    /** What is behind the first n bytes counts for nothing. */
    private static void cut() {
        Due.be("P17: four digits and n", on("live if 1=12345").rule(14), 0);
        LakeBreath x = on("live if 1=12345");
        x.rule(15);
        Due.be("P17: a fifth in n", x.where(), 10);
        x = on("abcdefghi");
        x.rule(8);
        Due.be("P18: eight letters and n", x.fault(), 2);
        x = on("abcdefghi");
        x.rule(9);
        Due.be("P18: a ninth in n", x.fault(), 1);
        x = on("live if 1=1$");
        Due.be("P17: up to the byte", x.rule(11), 0);
        x = on("live if 1=1$");
        x.rule(12);
        Due.be("P19: with the byte", x.where(), 11);
        x = on("live if 1=");
        x.rule(10);
        Due.be("P19: the end is at n", x.where(), 10);
        x = on("siren if 1=1");
        x.rule(4);
        Due.be("P18: a WORD cut", x.fault(), 2);
        x = on("siren");
        x.rule(5);
        Due.be("P19: a WORD whole", x.where(), 5);
        // Of an older text on THE TAPE nothing is left.
        x = on("live if 1=1 and 2=2 and 3=3");
        x.rule(2);
        Due.be("P17: THE TAPE is empty", x.count(9), 0);
        Due.refused("P17: nothing is left of it", x, x.rule(1), 2);
        Due.be("P17: the next text", Due.rule(x, "shut if 1=1"), 0);
    }

    private static void blanks() {
        good("live if 1=1");
        good("  live   if   1  =  1  ");
        good("live if(1=1)and(1=1)or not(1=1)");
        good("live if 1<2+3-4");
        for (int b : new int[] {0, 9, 10, 13, 160}) {
            faulty("live" + (char) b + "if 1=1", 1, 4);
        }
        faulty("", 1, 0);
        faulty(" ", 1, 1);
        faulty(times(" ", 300), 1, 300);
    }

    private static void terms() {
        for (int left = 1; left < 30; left++) {
            good("live if " + times("1+", left - 1) + "1=" + times("day-", 29 - left) + "day");
            String text = "live if " + times("1+", left - 1) + "1=" + times("day-", 30 - left);
            faulty(text + "day", 3, text.length());
        }
        good("live if " + times("1=1 or ", 14) + "1=wind");
        String many = "live if " + times("1=1 or ", 15);
        faulty(many + "1=1", 3, many.length());
        faulty(many + "wind", 3, many.length());
        faulty(many + "(7", 3, many.length() + 1);
        faulty(many + "not 7", 3, many.length() + 4);
        LakeBreath x = new LakeBreath();
        Due.be("P17: 30 of 9999 are no more than an int",
                so(x, times("9999+", 27) + "9999>9999+9999"), 1);
    }

    private static void opens() {
        for (int n = 1; n <= 8; n++) {
            good("live if " + times("(", n) + "1=1" + times(")", n));
        }
        faulty("live if " + times("(", 9), 3, 16);
        faulty("live if " + times("(", 9) + "1=1" + times(")", 9), 3, 16);
        good("live if " + times("(", 8) + "1=1) and (2=2" + times(")", 8));
        good("live if " + times("(1=1) and ", 9) + "1=1");
        faulty("live if " + times("(", 8) + "1=1) and ((2=2" + times(")", 9), 3, 26);
        good("live if " + times("(not ", 8) + "1=1" + times(")", 8));
        faulty("live if " + times("(not ", 8) + "(", 3, 48);
        faulty("live if " + times("(", 8) + "1=1" + times(")", 9), 1, 27);
        faulty("live if " + times("(", 8) + "1=1" + times(")", 7), 1, 26);
        faulty("live if )", 1, 8);
        faulty("live if ()", 1, 9);
    }

    private static void nots() {
        for (int n = 0; n <= 8; n++) {
            LakeBreath x = new LakeBreath();
            Due.be("P17: " + n + " nots", so(x, times("not ", n) + "1=1"), n % 2 == 0 ? 1 : 0);
        }
        faulty("live if " + times("not ", 9), 3, 40);
        faulty("live if " + times("not ", 9) + "1=1", 3, 40);
        faulty("live if " + times("not ", 12) + "1=1", 3, 40);
        good("live if " + times("not ", 8) + "(" + times("not ", 8) + "1=1)");
        faulty("live if " + times("not ", 8) + "(" + times("not ", 9) + "1=1)", 3, 73);
        good("live if " + times("not ", 8) + "1=1 or " + times("not ", 8) + "1=1");
        faulty("live if " + times("not ", 8) + "1=1 or " + times("not ", 9) + "1=1", 3, 79);
        good("live if (" + times("not ", 8) + "1=1) and " + times("not ", 8) + "1=1");
        good("live if " + times("not ", 7) + "(not 1=1)");
        good("live if " + times("not ", 8) + "(not 1=1)");
    }

    /** FAULTS: the first from the left, of one place the least number. */
    private static void leastNumber() {
        String terms = "live if " + times("1=1 or ", 15);
        faulty(terms + "wet", 2, terms.length());
        faulty(terms + "siren", 2, terms.length());
        faulty(terms + "if", 1, terms.length());
        faulty(terms + "12345", 1, terms.length());
        faulty(terms + "abcdefghi", 1, terms.length());
        faulty(terms + "$", 1, terms.length());
        faulty(terms, 1, terms.length());
        String opens = "live if " + times("(", 8);
        faulty(opens + "1(", 1, 17);
        faulty(opens + "1=1 (", 1, 20);
        faulty(opens + "wet(", 2, 16);
        String nots = "live if " + times("not ", 8);
        faulty(nots + "1=1 not", 1, 44);
        faulty(nots + "wet not", 2, 40);
        faulty(nots + "$not", 1, 40);
        faulty("live if wet wet $", 2, 8);
        faulty("live if 1 wet", 1, 10);
        faulty("wet wet", 2, 0);
        faulty("$wet", 1, 0);
        faulty("live $ wet", 1, 5);
    }

    private static void numberOfBytes() {
        LakeBreath x = on("live if 1=1");
        Due.refused("P17: more than THE TAPE has", x, x.rule(21), 2);
        Due.be("P17: THE TAPE stays", x.count(9), 20);
        Due.refused("P17: fewer than none", x, x.rule(-1), 2);
        Due.refused("P17: the smallest int", x, x.rule(Edges.LEAST), 2);
        Due.refused("P17: the largest int", x, x.rule(Edges.MOST), 2);
        Due.be("P17: THE TAPE stays", x.count(9), 20);
        Due.be("P17: all of it", x.rule(20), 0);
        Due.be("P17: THE TAPE is empty then", x.count(9), 0);
        Due.refused("P17: one of none", x, x.rule(1), 2);
        Due.refused("P17: none of none", x, x.rule(0), 4);
        Due.be("P19: its place", x.where(), 0);
        x = on("live if 1=1");
        Due.refused("P17: none of 20", x, x.rule(0), 4);
        Due.be("P18: FORM", x.fault(), 1);
        Due.be("P19: the end", x.where(), 0);
        Due.be("P17: THE TAPE is empty then", x.count(9), 0);
        Due.be("P37: no RULE", x.count(1), 0);
    }

    /** Of a text that was a FAULT nothing is left in the next one. */
    private static void nothingLeft() {
        String[] spoilt = {"siren if not", "siren if not (1=2", "siren if not (not 1+2", "siren if 1=2 or not 3<4 and",
            "siren if " + times("(", 8), "siren if " + times("not ", 8), "siren if " + times("not ", 9),
            "siren if " + times("(", 9), "siren if " + times("1+", 29) + "1",
            "siren if siren", "siren if 1 = 12345", "shut", "wet"};
        String[] good = {"1=1", times("not ", 8) + "1=1", times("(", 8) + "1=1" + times(")", 8),
            times("1+", 28) + "1=29"};
        for (String text : spoilt) {
            for (String next : good) {
                LakeBreath x = new LakeBreath();
                Due.rule(x, text);
                Due.be("P17: " + next + " behind " + text, so(x, next), 1);
                Due.rule(x, text);
                Due.be("P17: 1=2 behind " + text, so(x, "1=2"), 0);
            }
            LakeBreath x = new LakeBreath();
            Due.rule(x, text);
            Due.faulty(x, "abcdefghi if 1=1", 1, 0);
            Due.rule(x, text);
            Due.faulty(x, "12345 if 1=1", 1, 0);
        }
    }

    private static LakeBreath rules(int n) {
        LakeBreath x = new LakeBreath();
        for (int i = 0; i < n; i++) {
            Due.rule(x, "siren if wind=" + i);
        }
        return x;
    }

    private static void room() {
        LakeBreath x = rules(15);
        Due.be("P17: a 16th", Due.rule(x, "live if 1=1"), 15);
        Due.be("P37: RULES", x.count(1), 16);
        Due.refused("P17: a 17th", x, Due.rule(x, "shut if 1=1"), 3);
        Due.be("P37: RULES", x.count(1), 16);
        Due.be("P17: THE TAPE is empty", x.count(9), 0);
        Due.be("P18: there was no FAULT", x.fault(), 0);
        Due.be("P19: nor a place", x.where(), -1);
        Due.be("P22: it is no RULE", x.says(0, 1), 0);
        Due.refused("P17: 4 ahead of 3", x, Due.rule(x, "shut if"), 4);
        Due.feed(x, "shut if 1=1");
        Due.refused("P17: 2 ahead of 3", x, x.rule(21), 2);
        Due.be("P17: THE TAPE stays", x.count(9), 20);
        Due.granted("P20: one is gone", x, x.repeal(15));
        Due.be("P17: room again", x.rule(11), 15);
        Due.be("P22: it is a RULE", x.says(0, 1), 1);
    }

    private static void faultAndWhere() {
        LakeBreath x = new LakeBreath();
        Due.be("P18: 0 without one", x.fault(), 0);
        Due.be("P19: NONE", x.where(), -1);
        x.rule(1);
        Due.be("P18: refused by 2 there is none still", x.fault(), 0);
        Due.be("P19: nor a place", x.where(), -1);
        Due.faulty(x, "wet", 2, 0);
        x.rule(-1);
        Due.be("P18: refused by 2 it stays", x.fault(), 2);
        Due.be("P19: the latest call wasn't by 4", x.where(), -1);
        Due.faulty(x, "live if " + times("(", 9), 3, 16);
        x.wind(100);
        Due.be("P18: it stays", x.fault(), 3);
        Due.be("P19: the latest call was by 2", x.where(), -1);
        Due.faulty(x, "live if", 1, 7);
        Due.be("P19: once more", x.where(), 7);
        x.count(1);
        x.full(5, true);
        x.may(-1);
        Due.be("P19: calls that tell no trouble", x.where(), 7);
        x.wind(9);
        Due.be("P19: the latest call was not refused", x.where(), -1);
        Due.be("P18: it stays", x.fault(), 1);
        Due.be("P17: a RULE", Due.rule(x, "live if 1=1"), 0);
        Due.be("P18: 0 without one", x.fault(), 0);
    }

    private static void repeal() {
        for (int n = 0; n <= 16; n += 8) {
            int count = n;
            for (int bad : new int[] {n, n + 1, -1, 16, 17, Edges.LEAST, Edges.MOST}) {
                Edges.refused("P20: of " + n + " RULES", () -> rules(count), (x, m) -> x.repeal(m[0]) ? 1 : 0, 0, 1,
                        bad);
            }
        }
        for (int gone = 0; gone < 16; gone++) {
            LakeBreath x = rules(16);
            Due.granted("P20: gone is " + gone, x, x.repeal(gone));
            for (int wind = 0; wind < 16; wind++) {
                x.wind(wind);
                Due.be("P20: gone is " + gone + ", by wind " + wind, x.says(0, 0), wind == gone ? 0 : 1);
            }
            Due.be("P37: RULES", x.count(1), 15);
            Due.denied("P20: those behind it have one number less", x, x.repeal(15), 1);
            if (gone < 15) {
                x.repeal(gone);
                x.wind(gone + 1);
                Due.be("P20: the next has its number", x.says(0, 0), 0);
            }
        }
    }

    private static void is(LakeBreath x, String name, int lake, int due) {
        int number = Due.rule(x, "siren if " + name + " = " + due);
        Due.be("P22: " + name + " is " + due, x.says(lake, 0), 1);
        x.repeal(number);
    }

    private static void namesAtEdges() {
        LakeBreath x = new LakeBreath();
        x.set(0, 1, 9999);
        is(x, "drop", 0, 9999);
        is(x, "drop", 1, 0);
        x.set(0, 1, 20000);
        Due.be("P22: drop is 20,000", so(x, "drop = 9999 + 9999 + 2"), 1);
        is(x, "full", 0, 0);
        is(x, "full", 1, 100);
        x.reading(0, 9, 1);
        is(x, "full", 0, 999);
        is(x, "dead", 0, 9);
        is(x, "dead", 1, 10);
        is(x, "wind", 1, 0);
        x.wind(99);
        is(x, "wind", 0, 99);
        is(x, "wind", 1, 99);
        is(x, "lake", 0, 0);
        is(x, "lake", 1, 1);
        is(x, "burst", 0, 999);
        x.set(0, 2, 1);
        is(x, "burst", 0, 1);
        is(x, "burst", 1, 999);
        is(x, "day", 0, 0);
        for (int i = 0; i < 3; i++) {
            is(x, "run", 1, i);
            x.pipe(1, i, 1, 0);
            x.pipe(0, i, 1, 0);
            x.start(2 * i);
        }
        is(x, "run", 1, 3);
        is(x, "run", 0, 0);
        LakeBreath y = new LakeBreath();
        for (int i = 0; i < 10; i++) {
            y.reading(0, i, 0);
        }
        is(y, "dead", 0, 0);
        y.pass(6);
        is(y, "dead", 0, 0);
        y.pass(1);
        is(y, "dead", 0, 10);
        for (int i = 0; i < 49; i++) {
            y.pass(60);
        }
        y.pass(52);
        is(y, "day", 1, 2999);
        // AHEAD is 365 DAYS at most.
        LakeBreath z = new LakeBreath();
        for (int i = 0; i < 10; i++) {
            z.layer(0, i, 0, 0, 100 * i);
        }
        z.set(0, 0, 50);
        z.set(0, 3, 1000);
        z.set(0, 2, 1);
        z.layer(0, 9, 136, 0, 900);
        is(z, "burst", 0, 365);
        z.layer(0, 9, 135, 0, 900);
        is(z, "burst", 0, 999);
    }

    /** height is that of the CELL, and 0 but for live. */
    private static void height() {
        for (String act : new String[] {"siren", "work", "shut"}) {
            LakeBreath x = new LakeBreath();
            for (int cell : new int[] {0, 399}) {
                x.height(cell, 500);
            }
            Due.rule(x, act + " if height = 0");
            int what = act.equals("siren") ? 0 : act.equals("shut") ? 1 : 2;
            Due.be("P22: height is 0 but for live, " + act, x.says(0, what) + x.says(1, what), 2);
        }
        LakeBreath x = new LakeBreath();
        Due.rule(x, "live if height > 998");
        for (int cell : new int[] {0, 19, 20, 380, 399}) {
            Due.be("P23: height 0", x.may(cell), 0);
            x.height(cell, 998);
            Due.be("P23: height 998", x.may(cell), 0);
            x.height(cell, 999);
            Due.be("P23: height 999", x.may(cell), 1);
        }
        Due.be("P23: another CELL", x.may(1), 0);
    }

    private static void says() {
        LakeBreath x = new LakeBreath();
        for (int lake = 0; lake < 2; lake++) {
            Due.be("P22: without RULES no SIREN", x.says(lake, 0), 0);
            Due.be("P22: without RULES not SHUT", x.says(lake, 1), 0);
            Due.be("P22: without RULES work", x.says(lake, 2), 1);
        }
        Due.be("P23: without RULES folk may LIVE", x.may(0), 1);
        String[] acts = {"siren", "siren", "shut", "shut", "work", "work", "live", "live"};
        for (String act : acts) {
            Due.rule(x, act + " if wind > " + x.count(1));
        }
        // RULES of siren by wind above 0 and 1, of shut 2 and 3, of work 4 and 5, of live 6 and 7.
        int[][] rows = {{0, 0, 0, 0, 0}, {1, 1, 0, 0, 0}, {2, 1, 0, 0, 0}, {3, 1, 1, 0, 0}, {7, 1, 1, 0, 0},
            {8, 1, 1, 0, 1}};
        for (int[] row : rows) {
            x.wind(row[0]);
            Due.be("P22: some RULE of siren, wind " + row[0], x.says(1, 0), row[1]);
            Due.be("P22: some RULE of shut, wind " + row[0], x.says(1, 1), row[2]);
            Due.be("P22: SHUT there is no work, wind " + row[0], x.says(1, 2), row[3]);
            Due.be("P23: all RULES of live, wind " + row[0], x.may(7), row[4]);
        }
        x.repeal(3);
        x.repeal(2);
        for (int wind = 4; wind <= 6; wind++) {
            x.wind(wind);
            Due.be("P22: all RULES of work, wind " + wind, x.says(0, 2), wind == 6 ? 1 : 0);
        }
        for (int lake = 0; lake < 2; lake++) {
            LakeBreath y = new LakeBreath();
            Due.rule(y, "live if lake = " + lake);
            Due.be("P23: each LAKE", y.may(0), 0);
        }
    }

    private static void signs() {
        LakeBreath x = new LakeBreath();
        x.wind(5);
        String[] both = {"wind < 6", "wind > 4", "wind = 5"};
        for (String text : both) {
            Due.be("P17: not " + text, so(x, "not " + text), 0);
            Due.be("P17: not not " + text, so(x, "not not " + text), 1);
            for (String other : both) {
                Due.be("P17: " + text + " and " + other, so(x, text + " and " + other), 1);
                Due.be("P17: " + text + " and not " + other, so(x, text + " and not " + other), 0);
                Due.be("P17: " + text + " or not " + other, so(x, text + " or not " + other), 1);
            }
        }
        String[] texts = {"wind < 5", "wind < 6", "wind > 5", "wind > 4", "wind = 5", "wind = 4", "0 - 1 < 0",
            "0 - 1 = 1 - 2", "0 - 9999 - 9999 < 1 - 9999 - 9998", "1 - 1 = 0", "5 - 3 - 2 = 0", "5 - 3 + 2 = 4",
            "1 = 1 or 1 = 1 and 1 = 2", "1 = 2 and 1 = 1 or 1 = 1", "(1 = 1 or 1 = 1) and 1 = 2",
            "not 1 = 2 and 1 = 2", "not (1 = 2 and 1 = 2)", "not 1 = 1 or 1 = 1", "not (1 = 1 or 1 = 1)",
            "5 = 4 + 2", "6 = 4 + 2", "2 = 4 - 2", "5 > 9 - 3", "1 < 3 - 1", "4 + 2 = 6 - 0", "1 = 2 and (1 = 1)",
            "1 = 2 and (1 = 1 or 1 = 1)", "1 = 1 or (1 = 2)", "1 = 2 or (1 = 1 and (1 = 2))", "not (not (1 = 1))",
            "1 = 1 and not (1 = 2 or (1 = 1 and 1 = 2))", "1 = 2 or 1 = 1 and (1 = 2 or 1 = 1)"};
        int[] due = {0, 1, 0, 1, 1, 0, 1, 1, 1, 1, 1, 1, 1, 1, 0, 0, 1, 1, 0, 0, 1, 1, 0, 1, 1, 0, 0, 1, 0, 1, 1, 1};
        Due.be("as many", texts.length, due.length);
        for (int i = 0; i < texts.length; i++) {
            Due.be("P17: " + texts[i], so(x, texts[i]), due[i]);
        }
    }
}
