/** Promises 24 to 27: readings, soundings, drift, what was known when. */
public final class StringsTest {
    private static final int NO_NUMBER = -2147483648;

    public static void main(String[] args) {
        reading();
        sounding();
        room();
        drift();
        bounds();
        known();
        right();
        dead();
        Due.end();
    }

    private static void reading() {
        LakeBreath x = new LakeBreath();
        Due.denied("reading lake", x, x.reading(2, 0, 0), 1);
        Due.denied("reading lake", x, x.reading(-1, 0, 0), 1);
        Due.denied("reading layer", x, x.reading(0, 10, 0), 1);
        Due.denied("reading layer", x, x.reading(0, -1, -1), 1);
        Due.denied("reading gas", x, x.reading(0, 0, -1), 2);
        Due.denied("reading gas", x, x.reading(0, 0, 100001), 2);
        Due.be("no READINGS", x.count(2), 0);
        Due.granted("reading least", x, x.reading(0, 0, 0));
        Due.granted("reading most", x, x.reading(1, 9, 100000));
        Due.be("READINGS", x.count(2), 2);
        Due.be("TOLD GAS", x.of(1, 9, 5), 100000);
        x.reading(1, 9, 7);
        Due.be("the latest", x.of(1, 9, 5), 7);
        Due.be("of its own string", x.of(0, 9, 5), 10000);
        Due.be("and layer", x.of(1, 8, 5), 9000);
    }

    private static void sounding() {
        LakeBreath x = new LakeBreath();
        x.reading(0, 3, 500);
        int[][] calls = {{2, 3, 5, 1}, {-1, 3, 5, 1}, {0, 10, 5, 1}, {0, -1, -5, 1}, {0, 3, -1, 2}, {0, 3, 100001, 2},
            {0, 4, 100001, 2}, {0, 4, 5, 5}, {1, 3, 5, 5}};
        for (int[] c : calls) {
            Due.be("sounding", x.sounding(c[0], c[1], c[2]), NO_NUMBER);
            Due.be("sounding, trouble", x.trouble(), c[3]);
        }
        Due.be("SOUNDINGS", x.count(3), 0);
        Due.be("DRIFT", x.sounding(0, 3, 430), -70);
        Due.be("trouble", x.trouble(), 0);
        Due.be("SOUNDINGS", x.count(3), 1);
        Due.be("PUT RIGHT", x.of(0, 3, 5), 430);
        x.reading(0, 3, 480);
        Due.be("the latest of both", x.of(0, 3, 5), 430);
        Due.be("DRIFT by the latest READING", x.sounding(0, 3, 481), 1);
        Due.be("the latest SOUNDING", x.of(0, 3, 5), 481);
        x.pass(1);
        Due.be("no READING of TODAY", x.sounding(0, 3, 481), NO_NUMBER);
        Due.be("trouble", x.trouble(), 5);
    }

    private static void room() {
        LakeBreath x = new LakeBreath();
        x.reading(0, 0, 5);
        for (int i = 0; i < 60; i++) {
            Due.be("sounding " + i, x.sounding(0, 0, 5 + i), i);
        }
        Due.be("a 61st", x.sounding(0, 0, 5), NO_NUMBER);
        Due.be("trouble", x.trouble(), 3);
        Due.be("5 ahead of 3", x.sounding(0, 1, 5), NO_NUMBER);
        Due.be("trouble", x.trouble(), 5);
        Due.be("SOUNDINGS", x.count(3), 60);
        for (int i = 1; i < 300; i++) {
            Due.be("reading " + i, x.reading(1, 0, i), true);
        }
        Due.denied("a 301st", x, x.reading(1, 0, 5), 3);
        Due.denied("2 ahead of 3", x, x.reading(1, 0, -5), 2);
        Due.be("READINGS", x.count(2), 300);
        Due.be("the latest is the 300th", x.of(1, 0, 5), 299);
    }

    private static void drift() {
        LakeBreath x = new LakeBreath();
        x.reading(0, 2, 1000);
        x.pass(2);
        x.reading(0, 2, 1000);
        Due.be("DRIFT 10 on DAY 2", x.sounding(0, 2, 1010), 10);
        x.pass(1);
        x.reading(0, 2, 1000);
        x.pass(1);
        x.reading(0, 2, 1000);
        x.pass(1);
        x.reading(0, 2, 1000);
        Due.be("DRIFT 0 on DAY 5", x.sounding(0, 2, 1000), 0);
        x.pass(3);
        x.reading(0, 2, 1000);
        Due.be("ahead of the first", x.right(0, 2, 0), 1010);
        Due.be("on the first", x.right(0, 2, 2), 1010);
        Due.be("on the line, downwards", x.right(0, 2, 3), 1006);
        Due.be("on the line, downwards", x.right(0, 2, 4), 1003);
        Due.be("on the last", x.right(0, 2, 5), 1000);
        Due.be("behind the last", x.right(0, 2, 8), 1000);
        Due.be("DRIFT -10 on DAY 8", x.sounding(0, 2, 990), -10);
        x.pass(2);
        x.reading(0, 2, 1000);
        x.pass(1);
        x.reading(0, 2, 1000);
        Due.be("behind the last", x.of(0, 2, 5), 990);
        Due.be("DRIFT -5 on DAY 11", x.sounding(0, 2, 995), -5);
        Due.be("downwards below 0 too", x.right(0, 2, 10), 993);
        Due.be("another string has none", x.of(0, 3, 5), 4000);
        x.reading(0, 3, 1000);
        Due.be("0 without any", x.of(0, 3, 5), 1000);
    }

    private static void bounds() {
        LakeBreath x = new LakeBreath();
        x.reading(1, 0, 100000);
        x.sounding(1, 0, 10);
        x.pass(1);
        x.reading(1, 0, 5000);
        Due.be("0 at least", x.of(1, 0, 5), 0);
        x.reading(1, 1, 0);
        x.sounding(1, 1, 100000);
        x.pass(1);
        x.reading(1, 1, 1);
        Due.be("100,000 at most", x.of(1, 1, 5), 100000);
        Due.be("as known", x.known(1, 1, 2), 100000);
        Due.be("right", x.right(1, 0, 1), 0);
        LakeBreath y = new LakeBreath();
        y.reading(0, 0, 100000);
        y.sounding(0, 0, 0);
        for (int i = 0; i < 49; i++) {
            y.pass(60);
        }
        y.reading(0, 0, 50000);
        y.pass(58);
        y.reading(0, 0, 0);
        y.sounding(0, 0, 100000);
        int up = (int) (200000L * 2940 / 2998);
        Due.be("a long line", y.right(0, 0, 2940), Math.min(100000, 50000 - 100000 + up));
    }

    private static void known() {
        LakeBreath x = new LakeBreath();
        Due.be("known day", x.known(0, 0, 1), NO_NUMBER);
        Due.be("known day", x.known(0, 0, -1), NO_NUMBER);
        Due.be("known lake", x.known(2, 0, 0), NO_NUMBER);
        Due.be("known lake", x.known(-1, 0, 0), NO_NUMBER);
        Due.be("known layer", x.known(0, 10, 0), NO_NUMBER);
        Due.be("known layer", x.known(0, -1, 0), NO_NUMBER);
        x.pass(3);
        x.reading(0, 4, 200);
        x.pass(4);
        x.reading(0, 4, 300);
        x.sounding(0, 4, 340);
        x.pass(4);
        x.reading(0, 4, 400);
        x.sounding(0, 4, 400);
        Due.be("DEAD by that DAY", x.known(0, 4, 2), 5000);
        Due.be("by READINGS up to it", x.known(0, 4, 3), 200);
        Due.be("still", x.known(0, 4, 6), 200);
        Due.be("by SOUNDINGS up to it", x.known(0, 4, 7), 340);
        Due.be("still", x.known(0, 4, 10), 340);
        Due.be("TODAY", x.known(0, 4, 11), 400);
        x.set(0, 0, 2000);
        Due.be("HOLDS as it is now", x.known(0, 4, 0), 10000);
        x.pass(10);
        Due.be("the last of seven DAYS", x.known(0, 4, 17), 400);
        Due.be("DEAD by that DAY", x.known(0, 4, 18), 10000);
        Due.be("TODAY", x.known(0, 4, 21), 10000);
        Due.be("beyond TODAY", x.known(0, 4, 22), NO_NUMBER);
        x.layer(2, 0, 0, 0, 0);
        x.known(0, 4, 0);
        Due.be("known tells no trouble", x.trouble(), 1);
    }

    private static void right() {
        LakeBreath x = new LakeBreath();
        Due.be("right none", x.right(0, 0, 0), NO_NUMBER);
        x.reading(0, 0, 10);
        x.reading(0, 0, 20);
        Due.be("the latest of a DAY", x.right(0, 0, 0), 20);
        Due.be("right lake", x.right(2, 0, 0), NO_NUMBER);
        Due.be("right lake", x.right(-1, 0, 0), NO_NUMBER);
        Due.be("right layer", x.right(0, 10, 0), NO_NUMBER);
        Due.be("right layer", x.right(0, -1, 0), NO_NUMBER);
        Due.be("right day", x.right(0, 0, 1), NO_NUMBER);
        Due.be("right day", x.right(0, 0, -1), NO_NUMBER);
        Due.be("another string", x.right(1, 0, 0), NO_NUMBER);
        x.pass(60);
        x.reading(0, 0, 50);
        x.sounding(0, 0, 150);
        Due.be("by all SOUNDINGS up to TODAY", x.right(0, 0, 0), 120);
        Due.be("but not as known then", x.known(0, 0, 0), 20);
    }

    private static void dead() {
        LakeBreath x = new LakeBreath();
        x.reading(1, 5, 0);
        Due.be("alive", x.of(1, 5, 6), 0);
        x.pass(6);
        Due.be("the seventh DAY", x.of(1, 5, 6), 0);
        Due.be("told", x.of(1, 5, 5), 0);
        x.pass(1);
        Due.be("DEAD", x.of(1, 5, 6), 1);
        Due.be("what it HOLDS", x.of(1, 5, 5), 6000);
        x.reading(1, 5, 0);
        Due.be("alive again", x.of(1, 5, 6), 0);
    }
}
