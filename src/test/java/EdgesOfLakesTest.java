/** Terms I and II and promises 1 to 8, sentence by sentence: both sides of each edge of a LAYER, a DAY and AHEAD. */
public final class EdgesOfLakesTest {
    private static final int GAS = 0;
    private static final int WARMTH = 1;
    private static final int SALT = 2;
    private static final int WEIGHT = 3;
    private static final int HOLDS = 4;

    public static void main(String[] args) {
        newObject();
        weight();
        holds();
        full();
        fullTold();
        source();
        flow();
        lift();
        pipesByNumber();
        mix();
        air();
        lighter();
        halves();
        twoHundredTimes();
        burstOrNot();
        burstOfWhich();
        led();
        latestCloud();
        ahead();
        aheadOfPipes();
        aheadOfLayers();
        until();
        Due.end();
    }

    /** Salt grows so much with the depth that no LAYER is lighter than the one above it, whatever its GAS. */
    private static LakeBreath steady(int step, int mix) {
        LakeBreath x = new LakeBreath();
        for (int i = 0; i < 10; i++) {
            x.layer(0, i, 0, 0, 100 * i);
        }
        x.set(0, 0, step);
        x.set(0, 3, mix);
        return x;
    }

    private static void gas(LakeBreath x, int layer, int gas) {
        x.layer(0, layer, gas, 0, 100 * layer);
    }

    private static void newObject() {
        LakeBreath x = new LakeBreath();
        for (int lake = 0; lake < 2; lake++) {
            Due.be("P1: DROP 0 at first", x.of(lake, 0, HOLDS), 1000);
            Due.be("P1: STEP 1,000 until told", x.of(lake, 9, HOLDS), 10000);
            Due.be("P1: no GAS", x.led(lake, 4), 0);
            Due.be("P1: no CLOUD", x.led(lake, 5), 0);
        }
        Due.be("P1: DAY 0", x.count(6), 0);
        Due.be("P1: trouble", x.trouble(), 0);
        x.pass(1);
        Due.be("P1: no SOURCE", x.led(0, 0) + x.led(1, 0), 0);
        Due.be("P1: a LAKE lies at 0 until told", x.runOut(0, 1) + x.arrives(0), 1);
        Due.be("P1: a LAKE lies at 399 until told", x.runOut(1, 1) + x.arrives(399), 1);
        x.layer(0, 9, 1000, 0, 0);
        x.layer(1, 9, 9, 0, 0);
        x.pass(1);
        Due.be("P1: MIX 10 until told", x.of(0, 9, GAS), 900);
        Due.be("P1: MIX 10 until told, 9 of it", x.of(1, 9, GAS), 9);
    }

    private static void weight() {
        int[][] rows = {{0, 0, 0, 0}, {49, 0, 0, 0}, {50, 0, 0, 1}, {99, 0, 0, 1}, {100, 0, 0, 2}, {100000, 0, 0, 2000},
            {0, 1, 0, -1}, {0, 400, 0, -400}, {0, 0, 1, 4}, {0, 0, 1000, 4000}, {100000, 400, 1000, 5600},
            {49, 400, 0, -400}};
        LakeBreath x = new LakeBreath();
        for (int[] row : rows) {
            x.layer(1, 0, row[0], row[1], row[2]);
            Due.be("P4: WEIGHT of " + java.util.Arrays.toString(row), x.of(1, 0, WEIGHT), row[3]);
        }
    }

    private static void holds() {
        int[][] rows = {{1, 0, 0, 1}, {1, 0, 9, 10}, {1, 1, 0, 0}, {1, 2, 0, 0}, {10000, 0, 9, 100000},
            {10000, 20000, 0, 0}, {10000, 20000, 1, 0}, {10000, 19999, 1, 1}, {10000, 20000, 2, 10000},
            {1000, 9999, 9, 1}, {1000, 10000, 9, 0}, {1000, 10001, 9, 0}};
        LakeBreath x = new LakeBreath();
        for (int[] row : rows) {
            x.set(0, 0, row[0]);
            x.set(0, 1, row[1]);
            Due.be("P4: HOLDS by " + java.util.Arrays.toString(row), x.of(0, row[2], HOLDS), row[3]);
            Due.be("P4: TOLD GAS of the DEAD by it", x.of(0, row[2], 5), row[3]);
        }
        Due.be("P3: of a LAKE", x.of(1, 9, HOLDS), 10000);
    }

    /** GAS, DROP of a STEP of 1,000, and FULL of LAYER 0. */
    private static final int[][] FULL_OF = {{0, 0, 0}, {9, 0, 0}, {10, 0, 1}, {19, 0, 1}, {999, 0, 99}, {1000, 0, 100},
        {1009, 0, 100}, {1010, 0, 101}, {9989, 0, 998}, {9990, 0, 999}, {9999, 0, 999}, {10000, 0, 999},
        {100000, 0, 999}, {1, 999, 100}, {9, 999, 900}, {10, 999, 999}, {0, 1000, 0}, {1, 1000, 999}, {0, 1001, 0},
        {1, 20000, 999}};

    private static void full() {
        for (int[] row : FULL_OF) {
            LakeBreath x = new LakeBreath();
            x.layer(0, 0, row[0], 0, 0);
            x.set(0, 1, row[1]);
            Due.be("P5: FULL of " + java.util.Arrays.toString(row), x.full(0, false), row[2]);
            Due.be("P5: the other LAKE", x.full(1, false), 0);
        }
        for (int i = 0; i < 10; i++) {
            LakeBreath x = new LakeBreath();
            x.layer(1, i, 10 * (i + 1) * 7, 0, 0);
            Due.be("P5: the most over its LAYERS, " + i, x.full(1, false), 7);
            x.layer(1, 9 - i, 10 * (10 - i) * 8, 0, 0);
            Due.be("P5: the most over its LAYERS, then " + i, x.full(1, false), 8);
        }
    }

    private static void fullTold() {
        for (int[] row : FULL_OF) {
            LakeBreath x = new LakeBreath();
            x.set(1, 1, row[1]);
            for (int i = 0; i < 10; i++) {
                x.reading(1, i, i == 0 ? row[0] : 0);
            }
            Due.be("P5: FULL as told of " + java.util.Arrays.toString(row), x.full(1, true), row[2]);
        }
        LakeBreath x = new LakeBreath();
        for (int i = 0; i < 9; i++) {
            x.reading(0, i, 0);
        }
        Due.be("P5: one that is DEAD is FULL", x.full(0, true), 100);
        x.reading(0, 9, 9999);
        Due.be("P5: none is DEAD", x.full(0, true), 99);
        x.set(0, 1, 20000);
        Due.be("P5: HOLDS 0 and TOLD GAS isn't", x.full(0, true), 999);
        x.reading(0, 9, 0);
        Due.be("P5: HOLDS 0 and TOLD GAS is", x.full(0, true), 0);
    }

    private static void source() {
        int[][] rows = {{100000, 0, 0}, {99999, 1, 0}, {100000, 1, 1}, {99999, 2, 1}, {90000, 10000, 0},
            {90001, 10000, 1}, {100000, 10000, 10000}};
        for (int[] row : rows) {
            LakeBreath x = steady(10000, 1000);
            gas(x, 9, row[0]);
            x.set(0, 2, row[1]);
            String what = "DAY (1): " + row[1] + " into " + row[0];
            Due.be(what + ", BURSTS", x.pass(1), 0);
            Due.be(what + ", above 100,000 into the air at once", x.led(0, 2), row[2]);
            Due.be(what + ", SOURCES", x.led(0, 0), row[0] + row[1]);
            Due.be(what + ", what stays", x.led(0, 4), row[0] + row[1] - row[2]);
            int stays = row[0] + row[1] - row[2];
            Due.be(what + ", LAYER 9", x.of(0, 9, GAS), stays - stays / 1000);
        }
        LakeBreath x = steady(10000, 1000);
        x.set(0, 2, 999);
        x.pass(1);
        Due.be("DAY (1): it comes into LAYER 9", x.of(0, 9, GAS), 999);
    }

    private static void flow() {
        int[][] rows = {{1, 999, 0}, {1, 1000, 1}, {1, 1999, 1}, {500, 1, 0}, {500, 2, 1}, {500, 100000, 50000},
            {499, 100000, 49900}, {1, 0, 0}, {500, 0, 0}};
        for (int[] row : rows) {
            LakeBreath x = steady(10000, 1000);
            x.pipe(0, 9, row[0], 0);
            x.start(0);
            gas(x, 9, row[1]);
            x.pass(1);
            String what = "DAY (2): FLOW " + row[0] + " of " + row[1];
            Due.be(what, x.pipeOf(0, 3), row[2]);
            Due.be(what + ", PIPES", x.led(0, 1), row[2]);
            Due.be(what + ", it RUNS on", x.pipeOf(0, 2), 1);
        }
        for (int layer = 0; layer < 10; layer++) {
            LakeBreath x = steady(10000, 1000);
            x.pipe(0, layer, 500, 0);
            x.start(0);
            for (int i = 0; i < 10; i++) {
                gas(x, i, 100 * (i + 1));
            }
            x.pass(1);
            for (int i = 0; i < 10; i++) {
                int was = 100 * (i + 1);
                Due.be("DAY (2): LAYER " + i + ", a PIPE at " + layer, x.of(0, i, GAS), i == layer ? was / 2 : was);
            }
        }
    }

    private static void lift() {
        int[][] rows = {{0, 0, 1}, {0, 1, 0}, {1, 1, 1}, {4999, 5000, 0}, {5000, 5000, 1}, {5001, 5000, 1},
            {99999, 100000, 0}, {100000, 100000, 1}};
        for (int[] row : rows) {
            LakeBreath x = steady(10000, 1000);
            x.pipe(0, 9, 500, row[1]);
            x.start(0);
            gas(x, 9, row[0]);
            x.pass(1);
            String what = "DAY (2): GAS " + row[0] + ", LIFT " + row[1];
            Due.be(what + ", RUNS", x.pipeOf(0, 2), row[2]);
            Due.be(what + ", let off", x.pipeOf(0, 3), row[2] * row[0] / 2);
            Due.be(what + ", PIPES", x.led(0, 1), row[2] * row[0] / 2);
            x.pipe(0, 9, 500, 0);
            x.set(0, 2, 0);
            int before = x.led(0, 1) - x.pipeOf(0, 3);
            x.pass(3);
            Due.be(what + ", PIPES, one not RUNNING", x.led(0, 1) - x.pipeOf(0, 3), before);
        }
        // The SOURCE comes first: it may be what the LIFT lacks.
        LakeBreath x = steady(10000, 1000);
        x.pipe(0, 9, 500, 100);
        x.start(0);
        gas(x, 9, 90);
        x.set(0, 2, 10);
        x.pass(1);
        Due.be("DAY (2) is behind (1)", x.pipeOf(0, 3), 50);
        x.set(0, 2, 49);
        x.pass(1);
        Due.be("DAY (2): one too few", x.pipeOf(0, 2), 0);
        x.set(0, 2, 1000);
        x.pass(2);
        Due.be("DAY (2): stopped, it lets off no more", x.pipeOf(0, 3), 50);
    }

    private static void pipesByNumber() {
        LakeBreath x = steady(10000, 1000);
        x.pipe(0, 5, 500, 600);
        x.pipe(1, 5, 500, 0);
        x.pipe(0, 5, 500, 300);
        x.pipe(0, 5, 500, 151);
        x.start(3);
        x.start(2);
        x.start(0);
        gas(x, 5, 600);
        x.pass(1);
        Due.be("DAY (2): by number, the first", x.pipeOf(0, 3), 300);
        Due.be("DAY (2): by number, the second has just enough", x.pipeOf(2, 3), 150);
        Due.be("DAY (2): by number, the third lacks one", x.pipeOf(3, 2), 0);
        Due.be("DAY (2): what doesn't RUN", x.pipeOf(1, 3), 0);
    }

    private static void mix() {
        int[][] rows = {{2, 1, 0, 0}, {2, 2, 0, 1}, {2, 3, 0, 1}, {2, 4, 0, 2}, {10, 19, 10, 0}, {10, 20, 10, 1},
            {10, 10, 10, 0}, {10, 10, 11, 0}, {10, 10, 500, 0}, {1000, 999, 0, 0}, {1000, 1000, 0, 1},
            {1000, 1999, 0, 1}, {1000, 2000, 0, 2}};
        for (int[] row : rows) {
            LakeBreath x = steady(10000, row[0]);
            gas(x, 9, row[1]);
            gas(x, 8, row[2]);
            // The one above it is as full, so that none goes on from there.
            gas(x, 7, 10000);
            x.pass(1);
            String what = "DAY (3): MIX " + row[0] + ", " + row[1] + " below " + row[2];
            Due.be(what + ", the lower", x.of(0, 9, GAS), row[1] - row[3]);
            Due.be(what + ", the upper", x.of(0, 8, GAS), row[2] + row[3]);
        }
        LakeBreath x = steady(10000, 2);
        gas(x, 9, 1024);
        x.pass(1);
        for (int i = 9; i >= 1; i--) {
            Due.be("DAY (3): from LAYER 9 up to 1, " + i, x.of(0, i, GAS), 1 << i);
        }
        Due.be("DAY (3): then LAYER 0", x.of(0, 0, GAS), 1);
        Due.be("DAY (3): then into the air", x.led(0, 2), 1);
    }

    private static void air() {
        int[][] rows = {{2, 1, 0}, {2, 2, 1}, {10, 9, 0}, {10, 10, 1}, {10, 19, 1}, {1000, 999, 0}, {1000, 1000, 1},
            {1000, 100000, 100}, {1000, 0, 0}};
        for (int[] row : rows) {
            LakeBreath x = steady(10000, row[0]);
            gas(x, 0, row[1]);
            x.set(0, 0, 10000);
            int before = x.led(0, 4);
            x.pass(1);
            String what = "DAY (3): LAYER 0 of " + row[1] + " by MIX " + row[0];
            Due.be(what + " into the air", x.led(0, 2), row[2]);
            Due.be(what + ", what is left", x.led(0, 4) + x.led(0, 3), before - row[2]);
        }
    }

    private static void lighter() {
        // SALT and WARMTH of LAYER 3 and 4, and whether they are mixed: 4 * SALT - WARMTH.
        int[][] rows = {{0, 0, 0, 0, 0}, {0, 4, 0, 4, 0}, {0, 0, 1, 4, 0}, {0, 0, 1, 6, 1}, {2, 0, 0, 0, 1},
            {1, 4, 0, 0, 0}, {1, 2, 0, 0, 1}, {0, 0, 0, 2, 1}, {0, 0, 0, 0, 0}, {0, 2, 0, 0, 0}};
        for (int[] row : rows) {
            LakeBreath x = new LakeBreath();
            for (int i = 0; i < 10; i++) {
                x.layer(0, i, 0, i < 3 ? 400 : 0, i < 3 ? 0 : 500);
            }
            x.layer(0, 3, 0, row[1], row[0]);
            x.layer(0, 4, 0, row[3], row[2]);
            x.pass(1);
            String what = "DAY (4): " + java.util.Arrays.toString(row);
            int salt = row[0] + row[2];
            int warmth = row[1] + row[3];
            Due.be(what + ", upper SALT", x.of(0, 3, SALT), row[4] == 1 ? salt / 2 : row[0]);
            Due.be(what + ", lower SALT", x.of(0, 4, SALT), row[4] == 1 ? salt - salt / 2 : row[2]);
            Due.be(what + ", upper WARMTH", x.of(0, 3, WARMTH), row[4] == 1 ? warmth / 2 : row[1]);
            Due.be(what + ", lower WARMTH", x.of(0, 4, WARMTH), row[4] == 1 ? warmth - warmth / 2 : row[3]);
        }
        // By GAS alone: a 50th of it, downwards.
        for (int upper : new int[] {49, 50}) {
            LakeBreath x = new LakeBreath();
            x.set(0, 3, 1000);
            x.layer(0, 0, upper, 0, 0);
            x.pass(1);
            Due.be("DAY (4): GAS of " + upper + " above none", x.of(0, 0, GAS) == upper, upper == 49);
        }
    }

    private static void halves() {
        for (int v = 0; v < 5; v++) {
            LakeBreath x = new LakeBreath();
            x.set(0, 3, 1000);
            x.layer(0, 8, v, v, 500 + v);
            x.layer(0, 9, 0, 0, 0);
            for (int i = 0; i < 8; i++) {
                x.layer(0, i, 0, 400, 0);
            }
            x.pass(1);
            Due.be("DAY (4): GAS of the upper", x.of(0, 8, GAS), v / 2);
            Due.be("DAY (4): GAS of the lower", x.of(0, 9, GAS), v - v / 2);
            Due.be("DAY (4): WARMTH of the upper", x.of(0, 8, WARMTH), v / 2);
            Due.be("DAY (4): WARMTH of the lower", x.of(0, 9, WARMTH), v - v / 2);
            Due.be("DAY (4): SALT of the upper", x.of(0, 8, SALT), (500 + v) / 2);
            Due.be("DAY (4): SALT of the lower", x.of(0, 9, SALT), 500 + v - (500 + v) / 2);
        }
    }

    /** SALT after so many turns at most, the highest pair each time. */
    private static int[] turned(int[] salt, int most) {
        int[] s = salt.clone();
        for (int turn = 0; turn < most; turn++) {
            int at = 1;
            while (at < 10 && s[at] >= s[at - 1]) {
                at++;
            }
            if (at == 10) {
                return s;
            }
            int both = s[at - 1] + s[at];
            s[at - 1] = both / 2;
            s[at] = both - both / 2;
        }
        return s;
    }

    private static void twoHundredTimes() {
        int stopped = 0;
        for (int seed = 1; seed < 200; seed++) {
            int[] salt = new int[10];
            LakeBreath x = new LakeBreath();
            for (int i = 0; i < 10; i++) {
                salt[i] = (seed * 7919 + (9 - i) * 104729 / (seed % 7 + 1)) % 1001;
                x.layer(1, i, 0, 0, salt[i]);
            }
            x.pass(1);
            int[] due = turned(salt, 200);
            int differ = 0;
            for (int i = 0; i < 10; i++) {
                Due.be("DAY (4): 200 times at most, " + seed, x.of(1, i, SALT), due[i]);
            }
            if (!java.util.Arrays.equals(due, turned(salt, 199)) && !java.util.Arrays.equals(due, turned(salt, 201))) {
                differ = 1;
            }
            stopped += differ;
        }
        Due.be("DAY (4): some would be otherwise by 199 or 201", stopped > 0, true);
    }

    private static void burstOrNot() {
        int[][] rows = {{0, 1000, 0, 0}, {0, 1001, 0, 1}, {9, 10000, 0, 0}, {9, 10001, 0, 1}, {9, 1, 9999, 0},
            {9, 2, 9999, 1}, {9, 0, 10000, 0}, {9, 1, 10000, 1}, {0, 0, 20000, 0}, {0, 1, 20000, 1}};
        for (int[] row : rows) {
            LakeBreath x = steady(1000, 1000);
            // What goes up by MIX on the way is told on top, so that GAS is row[1] as it comes to (5).
            int up = row[1] >= 1000 ? (row[1] + row[1] / 999) / 1000 : 0;
            gas(x, row[0], row[1] + up);
            if (row[0] == 9 && row[1] >= 10000) {
                gas(x, 8, 0);
            }
            x.set(0, 1, row[2]);
            String what = "DAY (5): GAS " + row[1] + " in LAYER " + row[0] + ", DROP " + row[2];
            LakeBreath y = steady(10000, 1000);
            gas(y, row[0], row[1] + up);
            y.pass(1);
            Due.be(what + ", as it comes to (5)", y.of(0, row[0], GAS), row[1]);
            if (row[2] == 0) {
                Due.be(what + ", BURSTS", x.pass(1), row[3]);
                Due.be(what + ", BURSTS in all", x.count(7), row[3]);
            } else {
                Due.be(what + ", burst", x.burst(0), row[3] == 1 ? 1 : -2);
            }
        }
    }

    private static void burstOfWhich() {
        for (int lowest = 0; lowest < 10; lowest++) {
            LakeBreath x = steady(1000, 1000);
            int cloud = 0;
            for (int i = 0; i < 10; i++) {
                // Less than MIX above the one above it: none goes up; LAYER 0 has less than goes into the air.
                int has = i == 0 ? 900 : 900 + 90 * i;
                gas(x, i, i == lowest ? Math.max(has, 1000 * i + 1900) : has);
                cloud += i < lowest ? has : 0;
            }
            int before = x.led(0, 4);
            Due.be("DAY (5): a BURST of " + lowest, x.pass(1), 1);
            Due.be("DAY (5): all above it", x.led(0, 5) >= cloud, true);
            for (int i = 0; i < 10; i++) {
                Due.be("DAY (5): LAYER " + i + " by a BURST of " + lowest, x.of(0, i, GAS) > 0, i > lowest);
            }
            Due.be("DAY (5): CLOUDS", x.led(0, 3), x.led(0, 5));
            Due.be("DAY (5): each unit", before, x.led(0, 3) + x.led(0, 4) + x.led(0, 2));
        }
        LakeBreath x = steady(1000, 1000);
        gas(x, 2, 4500);
        gas(x, 6, 8500);
        gas(x, 7, 8000);
        x.pass(1);
        Due.be("DAY (5): the lowest of two", x.of(0, 6, GAS), 0);
        Due.be("DAY (5): it HOLDS what it has", x.of(0, 7, GAS) > 7900, true);
    }

    private static void led() {
        LakeBreath x = new LakeBreath();
        x.layer(0, 9, 100000, 0, 0);
        Due.be("P6: SOURCES", x.led(0, 0), 100000);
        x.layer(0, 9, 100000, 5, 5);
        Due.be("P6: less what was there, as much", x.led(0, 0), 100000);
        x.layer(0, 9, 1, 0, 0);
        Due.be("P6: less what was there, more", x.led(0, 0), 1);
        x.layer(0, 9, 0, 0, 0);
        Due.be("P6: none", x.led(0, 0), 0);
        x.layer(0, 9, 100001, 0, 0);
        Due.be("P6: refused, none", x.led(0, 0), 0);
        LakeBreath y = new LakeBreath();
        y.layer(0, 9, 1000, 0, 0);
        y.pass(1);
        y.layer(0, 9, 0, 0, 0);
        Due.be("P6: what has gone up stays a SOURCE", y.led(0, 0), 100);
        Due.be("P6: and is there", y.led(0, 4), 100);
        y.set(0, 2, 10000);
        for (int i = 0; i < 20; i++) {
            y.pass(60);
        }
        Due.be("P6: since the beginning", y.led(0, 0), 100 + 1200 * 10000);
        Due.be("P6: each unit", y.led(0, 0), y.led(0, 1) + y.led(0, 2) + y.led(0, 3) + y.led(0, 4));
    }

    private static void latestCloud() {
        LakeBreath x = steady(1000, 1000);
        x.pass(1);
        Due.be("P6: 0 if there was no CLOUD", x.led(0, 5), 0);
        gas(x, 0, 1002);
        x.pass(1);
        Due.be("P6: the first CLOUD", x.led(0, 5), 1001);
        gas(x, 0, 1000);
        x.pass(1);
        Due.be("P6: it stays without another", x.led(0, 5), 1001);
        gas(x, 0, 1003);
        x.pass(1);
        Due.be("P6: the latest CLOUD", x.led(0, 5), 1002);
        Due.be("P6: CLOUDS, each summed", x.led(0, 3), 2003);
        Due.be("P6: the other LAKE", x.led(1, 5) + x.led(1, 3), 0);
    }

    /** With a MIX of 1,000 and less GAS than that one a DAY comes, and none goes up. */
    private static LakeBreath filling(int gas) {
        LakeBreath x = steady(50, 1000);
        x.set(0, 2, 1);
        gas(x, 9, gas);
        return x;
    }

    private static void ahead() {
        Due.be("P7: on the first DAY", filling(500).burst(0), 1);
        Due.be("P7: on the second", filling(499).burst(0), 2);
        Due.be("P7: on the 364th", filling(137).burst(0), 364);
        Due.be("P7: on the 365th", filling(136).burst(0), 365);
        Due.be("P7: on the 366th", filling(135).burst(0), -2);
        LakeBreath x = filling(136);
        x.burst(0);
        Due.be("P7: nothing is changed", x.led(0, 4) + x.led(0, 3) + x.count(7) + x.count(6), 136);
        for (int i = 0; i < 6; i++) {
            Due.be("P7: not by then", x.pass(60), 0);
        }
        Due.be("P7: 364 DAYS", x.pass(4), 0);
        Due.be("P7: one DAY more", x.burst(0), 1);
        Due.be("P7: the 365th", x.pass(1), 1);
        Due.be("P7: a LAKE that BURST", x.burst(0), -2);
        LakeBreath full = new LakeBreath();
        for (int i = 0; i < 49; i++) {
            full.pass(60);
        }
        full.pass(59);
        full.set(0, 2, 5000);
        Due.be("P7: AHEAD on the last of the DAYS", full.burst(0) > 0, true);
    }

    private static void aheadOfPipes() {
        // Each DAY 10 come; the PIPE lets off a half as long as there are 100.
        for (int lift : new int[] {100, 101}) {
            LakeBreath x = steady(20, 1000);
            x.pipe(0, 9, 500, lift);
            x.set(0, 2, 10);
            gas(x, 9, 90);
            x.start(0);
            String what = "P7: PIPES, too, LIFT " + lift;
            Due.be(what, x.burst(0), lift == 100 ? 17 : 12);
            Due.be(what + ", it RUNS still", x.pipeOf(0, 2), 1);
            Due.be(what + ", nothing is let off", x.pipeOf(0, 3), 0);
            Due.be(what + ", as DAYS go by", x.pass(lift == 100 ? 16 : 11), 0);
            Due.be(what + ", then", x.pass(1), 1);
        }
    }

    /** What stands in each LAYER counts AHEAD: its GAS, its WARMTH, its SALT. */
    private static void aheadOfLayers() {
        int[][] rows = {{0, 600, -2}, {1, 600, 1}, {0, 601, 1}, {4, 600, 1}};
        for (int[] row : rows) {
            for (int upper = 0; upper < 9; upper++) {
                LakeBreath x = steady(4, 1000);
                for (int i = 0; i < 10; i++) {
                    x.layer(0, i, 0, 0, 600);
                }
                // Both have what they HOLD: mixed the upper has more.
                x.layer(0, upper, 4 * (upper + 1), 0, row[1]);
                x.layer(0, upper + 1, 4 * (upper + 2), row[0], 600);
                for (int i = 0; i < upper; i++) {
                    x.layer(0, i, 0, 400, 0);
                }
                String what = "P7: WARMTH " + row[0] + " below SALT " + row[1] + ", " + upper;
                Due.be(what, x.burst(0), row[2]);
                Due.be(what + ", as the DAY goes by", x.pass(1), row[2] == 1 ? 1 : 0);
            }
        }
    }

    private static void until() {
        LakeBreath x = filling(249);
        Due.be("P8: FULL is it", x.until(0, 49), 0);
        Due.be("P8: FULL is one less", x.until(0, 50), 1);
        Due.be("P8: the least number", x.until(0, 1), 0);
        Due.be("P8: the most", x.until(0, 999), -2);
        Due.be("P8: as FULL as it can be without a BURST", x.until(0, 100), 251);
        Due.be("P8: it BURSTS ahead of that", x.until(0, 101), -2);
        Due.be("P8: on the 364th", filling(136).until(0, 100), 364);
        Due.be("P8: on the 365th", filling(135).until(0, 100), 365);
        Due.be("P8: on the 366th", filling(134).until(0, 100), -2);
        Due.be("P8: -2 is not refused", x.until(0, 999) + x.trouble(), -2);
        LakeBreath y = new LakeBreath();
        Due.be("P8: none", y.until(0, 1), -2);
        y.layer(0, 9, 99, 0, 0);
        Due.be("P8: FULL 0 isn't 1", y.until(0, 1), -2);
        y.layer(0, 9, 100, 0, 0);
        Due.be("P8: FULL 1", y.until(0, 1), 0);
        y.layer(0, 0, 9990, 0, 0);
        Due.be("P8: 999 at once, though it BURSTS", y.until(0, 999), 0);
        y.layer(0, 0, 9989, 0, 0);
        Due.be("P8: 998, and it BURSTS", y.until(0, 999), -2);
    }
}
