/** Promises 1 to 8: a new object, layers, numbers of a lake, what was led, and AHEAD. */
public final class LakesTest {
    private static final int NO_NUMBER = -2147483648;

    public static void main(String[] args) {
        newObject();
        layer();
        set();
        of();
        full();
        led();
        dayOfSource();
        dayOfPipes();
        dayOfMixing();
        dayOfTurning();
        dayOfBurst();
        burst();
        until();
        Due.end();
    }

    private static void newObject() {
        LakeBreath x = new LakeBreath();
        for (int lake = 0; lake < 2; lake++) {
            for (int what = 0; what < 6; what++) {
                Due.be("new led", x.led(lake, what), 0);
            }
            for (int layer = 0; layer < 10; layer++) {
                for (int what = 0; what < 4; what++) {
                    Due.be("new of", x.of(lake, layer, what), 0);
                }
                Due.be("new HOLDS", x.of(lake, layer, 4), 1000 * (layer + 1));
                Due.be("new TOLD GAS", x.of(lake, layer, 5), 1000 * (layer + 1));
                Due.be("new DEAD", x.of(lake, layer, 6), 1);
            }
        }
        Due.be("new DAY", x.count(6), 0);
        Due.be("new trouble", x.trouble(), 0);
        LakeBreath other = new LakeBreath();
        other.layer(0, 9, 7, 7, 7);
        Due.be("an object of its own", x.of(0, 9, 0), 0);
    }

    private static void layer() {
        LakeBreath x = new LakeBreath();
        Due.granted("layer most", x, x.layer(1, 9, 100000, 400, 1000));
        Due.be("gas", x.of(1, 9, 0), 100000);
        Due.be("warmth", x.of(1, 9, 1), 400);
        Due.be("salt", x.of(1, 9, 2), 1000);
        Due.denied("layer lake", x, x.layer(2, 0, 0, 0, 0), 1);
        Due.denied("layer lake", x, x.layer(-1, 0, 0, 0, 0), 1);
        Due.denied("layer layer", x, x.layer(0, 10, 0, 0, 0), 1);
        Due.denied("layer layer", x, x.layer(0, -1, 0, 0, 0), 1);
        Due.denied("layer 1 ahead of 2", x, x.layer(0, 10, -1, 0, 0), 1);
        Due.denied("layer gas", x, x.layer(0, 0, -1, 0, 0), 2);
        Due.denied("layer gas", x, x.layer(0, 0, 100001, 0, 0), 2);
        Due.denied("layer warmth", x, x.layer(0, 0, 0, -1, 0), 2);
        Due.denied("layer warmth", x, x.layer(0, 0, 0, 401, 0), 2);
        Due.denied("layer salt", x, x.layer(0, 0, 0, 0, -1), 2);
        Due.denied("layer salt", x, x.layer(0, 0, 0, 0, 1001), 2);
        Due.be("nothing came", x.led(0, 4), 0);
        Due.granted("layer least", x, x.layer(1, 9, 0, 0, 0));
        Due.be("sources are less what was there", x.led(1, 0), 0);
    }

    private static void set() {
        LakeBreath x = new LakeBreath();
        int[][] bounds = {{1, 10000}, {0, 20000}, {0, 10000}, {2, 1000}, {0, 399}};
        for (int what = 0; what < 5; what++) {
            Due.granted("set least " + what, x, x.set(1, what, bounds[what][0]));
            Due.granted("set most " + what, x, x.set(1, what, bounds[what][1]));
            Due.denied("set below " + what, x, x.set(1, what, bounds[what][0] - 1), 2);
            Due.denied("set above " + what, x, x.set(1, what, bounds[what][1] + 1), 2);
        }
        Due.denied("set lake", x, x.set(2, 0, 1), 1);
        Due.denied("set lake", x, x.set(-1, 0, 1), 1);
        Due.denied("set what", x, x.set(0, 5, 1), 1);
        Due.denied("set what", x, x.set(0, -1, 1), 1);
        Due.denied("set 1 ahead of 2", x, x.set(0, 5, -1), 1);
        Due.be("HOLDS by STEP and DROP", x.of(1, 9, 4), 80000);
        Due.be("HOLDS none below 0", x.of(1, 0, 4), 0);
        Due.be("the other LAKE stays", x.of(0, 9, 4), 10000);
        x.land(2, 1);
        x.runOut(1, 200);
        Due.be("its CELL", x.arrives(399), 0);
        x.set(1, 4, 45);
        x.runOut(1, 200);
        Due.be("its new CELL", x.arrives(45), 0);
        Due.be("beside its new CELL", x.arrives(25), 1);
    }

    private static void of() {
        LakeBreath x = new LakeBreath();
        x.layer(0, 3, 149, 400, 5);
        Due.be("WEIGHT", x.of(0, 3, 3), 20 - 400 + 2);
        x.layer(0, 3, 150, 10, 5);
        Due.be("WEIGHT", x.of(0, 3, 3), 20 - 10 + 3);
        Due.be("of lake", x.of(2, 0, 0), NO_NUMBER);
        Due.be("of lake", x.of(-1, 0, 0), NO_NUMBER);
        Due.be("of layer", x.of(0, 10, 0), NO_NUMBER);
        Due.be("of layer", x.of(0, -1, 0), NO_NUMBER);
        Due.be("of what", x.of(0, 0, 7), NO_NUMBER);
        Due.be("of what", x.of(0, 0, -1), NO_NUMBER);
        x.set(0, 1, 3500);
        Due.be("HOLDS less DROP", x.of(0, 3, 4), 500);
        Due.be("HOLDS none", x.of(0, 2, 4), 0);
        Due.be("TOLD GAS of the DEAD", x.of(0, 3, 5), 500);
        x.reading(0, 3, 77);
        Due.be("TOLD GAS", x.of(0, 3, 5), 77);
        Due.be("not DEAD", x.of(0, 3, 6), 0);
        x.layer(2, 0, 0, 0, 0);
        x.of(0, 0, 0);
        Due.be("of tells no trouble", x.trouble(), 1);
    }

    private static void full() {
        LakeBreath x = new LakeBreath();
        Due.be("full none", x.full(0, false), 0);
        Due.be("full told of the DEAD", x.full(0, true), 100);
        Due.be("full lake", x.full(2, false), -1);
        Due.be("full lake", x.full(-1, true), -1);
        x.layer(0, 1, 999, 0, 0);
        x.layer(0, 4, 1000, 0, 0);
        Due.be("full downwards", x.full(0, false), 49);
        x.layer(0, 0, 9990, 0, 0);
        Due.be("full 999", x.full(0, false), 999);
        x.layer(0, 0, 100000, 0, 0);
        Due.be("full at most 999", x.full(0, false), 999);
        x.set(1, 1, 20000);
        Due.be("HOLDS 0, gas 0", x.full(1, false), 0);
        Due.be("HOLDS 0, told 0", x.full(1, true), 0);
        x.layer(1, 5, 1, 0, 0);
        Due.be("HOLDS 0, gas", x.full(1, false), 999);
        x.reading(1, 2, 1);
        Due.be("HOLDS 0, told gas", x.full(1, true), 999);
        LakeBreath y = new LakeBreath();
        y.reading(1, 0, 1500);
        y.reading(1, 9, 11000);
        Due.be("told of LAYER 0", y.full(1, true), 150);
        y.reading(1, 9, 16000);
        Due.be("told of LAYER 9", y.full(1, true), 160);
    }

    private static void led() {
        LakeBreath x = new LakeBreath();
        x.layer(0, 9, 500, 0, 0);
        x.layer(0, 9, 200, 0, 0);
        x.layer(0, 8, 30, 0, 0);
        Due.be("SOURCES", x.led(0, 0), 230);
        Due.be("GAS that there is", x.led(0, 4), 230);
        Due.be("the other", x.led(1, 0), 0);
        Due.be("led lake", x.led(2, 0), NO_NUMBER);
        Due.be("led lake", x.led(-1, 0), NO_NUMBER);
        Due.be("led what", x.led(0, 6), NO_NUMBER);
        Due.be("led what", x.led(0, -1), NO_NUMBER);
        x.set(0, 2, 3000);
        x.pipe(0, 9, 300, 100);
        x.start(0);
        for (int i = 0; i < 40; i++) {
            x.pass(3);
            Due.be("each unit is led", x.led(0, 0), x.led(0, 1) + x.led(0, 2) + x.led(0, 3) + x.led(0, 4));
        }
        Due.be("SOURCES each DAY", x.led(0, 0), 230 + 120 * 3000);
    }

    private static void dayOfSource() {
        LakeBreath x = new LakeBreath();
        x.set(0, 0, 10000);
        x.set(0, 3, 1000);
        x.set(0, 2, 10000);
        x.layer(0, 9, 95000, 0, 1000);
        x.layer(0, 8, 90000, 0, 900);
        x.pass(1);
        Due.be("what is above 100,000 goes into the air", x.led(0, 2), 5000);
        Due.be("SOURCES count it", x.led(0, 0), 195000);
        Due.be("the rest stays", x.of(0, 9, 0), 100000 - 10);
        Due.be("and mixes", x.of(0, 8, 0), 90000 + 10 - 90);
    }

    private static void dayOfPipes() {
        LakeBreath x = new LakeBreath();
        x.set(0, 3, 1000);
        x.layer(0, 5, 1999, 0, 0);
        x.layer(0, 6, 0, 0, 100);
        x.layer(0, 7, 0, 0, 100);
        x.layer(0, 8, 0, 0, 100);
        x.layer(0, 9, 0, 0, 100);
        x.pipe(0, 5, 500, 1000);
        x.pipe(0, 5, 500, 1000);
        x.pipe(0, 5, 500, 0);
        x.start(0);
        x.start(1);
        x.pass(1);
        Due.be("a PIPE lets off, downwards", x.pipeOf(0, 3), 999);
        Due.be("the next one at its LIFT lets off", x.pipeOf(1, 3), 500);
        Due.be("one that doesn't RUN", x.pipeOf(2, 3), 0);
        Due.be("PIPES", x.led(0, 1), 1499);
        x.pass(1);
        Due.be("below its LIFT it stops", x.pipeOf(0, 2), 0);
        Due.be("and lets off no more", x.pipeOf(0, 3), 999);
        Due.be("nor is anything led so", x.led(0, 1), x.pipeOf(0, 3) + x.pipeOf(1, 3));
        LakeBreath y = new LakeBreath();
        y.pipe(0, 0, 100, 0);
        y.start(0);
        y.layer(0, 0, 50, 0, 0);
        y.pass(1);
        Due.be("a PIPE at LAYER 0", y.pipeOf(0, 3), 5);
        x.layer(0, 5, 1999, 0, 0);
        x.pass(1);
        Due.be("it doesn't start by itself", x.pipeOf(0, 3), 999);
    }

    /** Layers with so much salt that none is lighter than the one above it. */
    private static LakeBreath steady() {
        LakeBreath x = new LakeBreath();
        for (int i = 0; i < 10; i++) {
            x.layer(0, i, 0, 0, 100 * i);
        }
        return x;
    }

    private static void dayOfMixing() {
        LakeBreath x = steady();
        x.set(0, 3, 2);
        x.layer(0, 1, 101, 0, 100);
        x.pass(1);
        Due.be("the difference by MIX goes up", x.of(0, 1, 0), 51);
        Due.be("then LAYER 0 by MIX into the air", x.of(0, 0, 0), 25);
        Due.be("air", x.led(0, 2), 25);
        LakeBreath y = steady();
        y.layer(0, 4, 1000, 0, 400);
        y.layer(0, 5, 500, 0, 500);
        y.pass(1);
        Due.be("less than above stays", y.of(0, 5, 0), 500);
        Due.be("from 9 up to 1", y.of(0, 4, 0), 900);
        Due.be("and on", y.of(0, 3, 0), 90);
        Due.be("and on", y.of(0, 2, 0), 9);
        Due.be("and on", y.of(0, 1, 0), 1);
        LakeBreath z = steady();
        z.layer(0, 9, 100, 0, 900);
        z.layer(0, 8, 91, 0, 800);
        z.pass(1);
        Due.be("less than MIX stays", z.of(0, 9, 0), 100);
        Due.be("as of then", z.of(0, 8, 0), 82);
    }

    private static void dayOfTurning() {
        LakeBreath x = steady();
        x.layer(0, 1, 101, 5, 7);
        x.layer(0, 2, 0, 0, 0);
        x.set(0, 3, 1000);
        x.pass(1);
        int[] upper = {50, 2, 3};
        int[] lower = {51, 3, 4};
        for (int what = 0; what < 3; what++) {
            Due.be("the upper has the half " + what, x.of(0, 1, what), upper[what]);
            Due.be("the lower has what is over " + what, x.of(0, 2, what), lower[what]);
        }
        LakeBreath y = steady();
        y.layer(0, 4, 0, 100, 400);
        y.layer(0, 5, 0, 100, 400);
        y.pass(1);
        Due.be("as light is not lighter", y.of(0, 5, 2), 400);
        turningEnds();
    }

    private static void turningEnds() {
        LakeBreath x = new LakeBreath();
        for (int i = 0; i < 10; i++) {
            x.layer(0, i, 0, 0, 900 - 100 * i);
        }
        x.pass(1);
        int[] due = {655, 655, 655, 655, 646, 634, 300, 200, 100, 0};
        for (int i = 0; i < 10; i++) {
            Due.be("200 times, the highest pair each, " + i, x.of(0, i, 2), due[i]);
        }
        // Halved, one over: the lower one is lighter for ever, and takes all 200 times.
        LakeBreath y = new LakeBreath();
        y.layer(0, 1, 0, 1, 0);
        y.layer(0, 5, 0, 0, 100);
        y.pass(1);
        Due.be("the lower of the lighter", y.of(0, 1, 1), 1);
        Due.be("the next pair is not come to", y.of(0, 5, 2), 100);
        LakeBreath z = new LakeBreath();
        z.layer(0, 9, 0, 1, 0);
        z.layer(0, 0, 0, 0, 100);
        z.layer(0, 1, 0, 0, 0);
        z.pass(1);
        Due.be("a pair above it is", z.of(0, 0, 2) < 50, true);
    }

    private static void dayOfBurst() {
        LakeBreath x = steady();
        x.set(0, 3, 1000);
        x.layer(0, 1, 50, 0, 100);
        x.layer(0, 2, 3100, 0, 200);
        x.layer(0, 4, 5100, 0, 400);
        x.layer(0, 5, 6000, 0, 500);
        Due.be("a BURST", x.pass(1), 1);
        Due.be("the lowest such one and all above it", x.led(0, 5), 3100 + 50 + 5100);
        Due.be("CLOUDS", x.led(0, 3), 8250);
        Due.be("below it none", x.of(0, 5, 0), 6000);
        for (int i = 0; i < 5; i++) {
            Due.be("above it all", x.of(0, i, 0), 0);
        }
        x.layer(0, 5, 0, 0, 500);
        x.layer(0, 0, 1001, 0, 0);
        Due.be("what it HOLDS doesn't burst", x.pass(1), 0);
        Due.be("it HOLDS", x.of(0, 0, 0), 1000);
        x.layer(0, 0, 1002, 0, 0);
        Due.be("one more does", x.pass(1), 1);
        Due.be("the latest CLOUD", x.led(0, 5), 1001);
        Due.be("BURSTS in all", x.count(7), 2);
        Due.be("the other LAKE has its own", x.led(1, 5), 0);
    }

    private static void burst() {
        LakeBreath x = new LakeBreath();
        Due.be("no BURST", x.burst(0), -2);
        Due.be("burst lake", x.burst(2), -1);
        Due.be("burst lake", x.burst(-1), -1);
        x.set(1, 2, 2000);
        int days = x.burst(1);
        Due.be("a BURST ahead", days > 1, true);
        Due.be("nothing is changed", x.led(1, 4), 0);
        Due.be("nor is the DAY", x.count(6), 0);
        Due.be("the DAY ahead of it", x.pass(days - 1), 0);
        Due.be("one DAY more", x.burst(1), 1);
        Due.be("the DAY itself", x.pass(1), 1);
        pipeAhead();
        layersAhead();
        lastDayAhead();
    }

    private static void pipeAhead() {
        LakeBreath x = new LakeBreath();
        x.set(0, 2, 500);
        x.pipe(0, 9, 500, 100);
        x.start(0);
        Due.be("PIPES hold it back", x.burst(0), -2);
        Due.be("and aren't changed", x.pipeOf(0, 3), 0);
        x.pipe(1, 9, 500, 100000);
        x.pass(1);
        x.start(1);
        x.set(1, 2, 2000);
        Due.be("the PIPE stops AHEAD", x.burst(1) > 0, true);
        Due.be("but RUNS still", x.pipeOf(1, 2), 1);
        LakeBreath y = new LakeBreath();
        y.set(1, 2, 2000);
        Due.be("as without it", x.burst(1), y.burst(1));
    }

    /** What LAYERS have counts AHEAD: LAYER 0, and WARMTH, too. */
    private static void layersAhead() {
        LakeBreath x = steady();
        x.layer(0, 0, 2000, 0, 0);
        Due.be("LAYER 0", x.burst(0), 1);
        Due.be("LAYER 0", x.burst(1), -2);
        LakeBreath y = steady();
        y.set(0, 3, 1000);
        y.layer(0, 4, 4900, 0, 400);
        y.layer(0, 5, 5900, 0, 400);
        Due.be("not lighter", y.burst(0), -2);
        y.layer(0, 5, 5900, 200, 400);
        Due.be("by WARMTH it is", y.burst(0), 1);
        Due.be("until", y.until(0, 99), -2);
    }

    private static void lastDayAhead() {
        LakeBreath x = new LakeBreath();
        x.set(0, 2, 9);
        x.set(0, 3, 1000);
        int low = 1;
        int high = 10000;
        // The least STEP that lasts 365 DAYS: with one less it bursts at the latest on the 365th.
        while (low < high) {
            int mid = (low + high) / 2;
            x.set(0, 0, mid);
            if (x.burst(0) == -2) {
                high = mid;
            } else {
                low = mid + 1;
            }
        }
        x.set(0, 0, low);
        Due.be("not in 365", x.burst(0), -2);
        for (int i = 0; i < 6; i++) {
            Due.be("not in 360", x.pass(60), 0);
        }
        Due.be("not in 365", x.pass(5), 0);
        exactlyLastDay();
    }

    /** With a MIX of 1,000 and less GAS than that nothing goes up: one more each DAY. */
    private static void exactlyLastDay() {
        LakeBreath x = steady();
        x.set(0, 3, 1000);
        x.set(0, 0, 50);
        x.set(0, 2, 1);
        x.layer(0, 9, 135, 0, 900);
        Due.be("FULL on the 365th", x.until(0, 100), 365);
        x.layer(0, 9, 134, 0, 900);
        Due.be("FULL on the 366th", x.until(0, 100), -2);
        x.layer(0, 9, 136, 0, 900);
        Due.be("FULL on the 364th", x.until(0, 100), 364);
        Due.be("HOLDS 500, 501 on the 365th", x.burst(0), 365);
        x.layer(0, 9, 135, 0, 900);
        Due.be("501 on the 366th", x.burst(0), -2);
    }

    private static void until() {
        LakeBreath x = new LakeBreath();
        Due.refused("until lake", x, x.until(2, 1), 1);
        Due.refused("until lake", x, x.until(-1, 0), 1);
        Due.refused("until number", x, x.until(0, 0), 2);
        Due.refused("until number", x, x.until(0, 1000), 2);
        Due.be("until 999", x.until(0, 999), -2);
        Due.be("-2 isn't refused", x.trouble(), 0);
        x.layer(0, 9, 5000, 0, 0);
        Due.be("until now", x.until(0, 50), 0);
        Due.be("until more", x.until(0, 51), -2);
        x.set(0, 2, 1000);
        int days = x.until(0, 60);
        Due.be("until later", days > 0, true);
        x.pass(days - 1);
        Due.be("not yet", x.full(0, false) < 60, true);
        x.pass(1);
        Due.be("then", x.full(0, false) >= 60, true);
        Due.be("a BURST is ahead of it", x.until(0, 150), -2);
        LakeBreath y = new LakeBreath();
        y.set(0, 1, 20000);
        y.layer(0, 9, 1, 0, 0);
        Due.be("HOLDS 0 is 999", y.until(0, 999), 0);
        sameDayAsBurst();
    }

    /** What is left below a BURST counts for no DAY: the BURST, in the DAY itself, is ahead of it. */
    private static void sameDayAsBurst() {
        LakeBreath x = steady();
        x.set(0, 3, 1000);
        x.set(0, 0, 100);
        x.set(0, 2, 60);
        x.layer(0, 9, 900, 0, 900);
        x.layer(0, 4, 470, 0, 400);
        x.layer(0, 5, 569, 0, 500);
        Due.be("FULL now", x.full(0, false), 94);
        Due.be("FULL on the next DAY", x.until(0, 96), 1);
        x.layer(0, 5, 569, 0, 300);
        Due.be("turned over they BURST", x.burst(0), 1);
        Due.be("on the DAY of a BURST", x.until(0, 96), -2);
        Due.be("the BURST", x.pass(1), 1);
        Due.be("FULL then", x.full(0, false), 96);
    }
}
