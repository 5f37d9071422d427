/** Promises 28 to 35: heights, the run-out, villages and who can climb away. */
public final class LandTest {
    public static void main(String[] args) {
        height();
        land();
        runOut();
        lowestFirst();
        arrives();
        village();
        climb();
        climbHeights();
        climbSides();
        lost();
        moved();
        Due.end();
    }

    private static void height() {
        LakeBreath x = new LakeBreath();
        Due.denied("height cell", x, x.height(-1, 0), 1);
        Due.denied("height cell", x, x.height(400, -1), 1);
        Due.denied("height below", x, x.height(0, -1), 2);
        Due.denied("height above", x, x.height(0, 1000), 2);
        Due.granted("height most", x, x.height(399, 999));
        Due.granted("height least", x, x.height(399, 0));
        x.height(1, 21);
        x.height(20, 21);
        Due.be("walled in", x.runOut(0, 1000), 1);
    }

    private static void land() {
        LakeBreath x = new LakeBreath();
        int[][] bounds = {{0, 200}, {1, 10000}, {1, 50}};
        for (int what = 0; what < 3; what++) {
            Due.granted("land least", x, x.land(what, bounds[what][0]));
            Due.granted("land most", x, x.land(what, bounds[what][1]));
            Due.denied("land below", x, x.land(what, bounds[what][0] - 1), 2);
            Due.denied("land above", x, x.land(what, bounds[what][1] + 1), 2);
        }
        Due.denied("land what", x, x.land(3, 1), 1);
        Due.denied("land what", x, x.land(-1, -1), 1);
        x.height(1, 200);
        x.height(20, 201);
        Due.be("THICK 10000", x.runOut(0, 10001), 2);
        Due.be("RISE 200", x.arrives(1), 0);
        x.runOut(0, 1000000);
        Due.be("not over RISE", x.arrives(20), -2);
        Due.be("SPEED 50", x.arrives(2), 0);
    }

    private static void runOut() {
        LakeBreath x = new LakeBreath();
        Due.refused("runOut lake", x, x.runOut(2, 0), 1);
        Due.refused("runOut lake", x, x.runOut(-1, -1), 1);
        Due.refused("runOut amount", x, x.runOut(0, -1), 2);
        Due.refused("runOut amount", x, x.runOut(0, 1000001), 2);
        Due.be("ahead of any still", x.arrives(0), -1);
        Due.be("none", x.runOut(0, 0), 0);
        Due.be("trouble", x.trouble(), 0);
        Due.be("begun", x.runOut(0, 1), 1);
        Due.be("whole", x.runOut(0, 100), 1);
        Due.be("whole and begun", x.runOut(0, 101), 2);
        Due.be("all", x.runOut(1, 39901), 400);
        Due.be("one less", x.runOut(1, 39900), 399);
        Due.be("the most", x.runOut(1, 1000000), 400);
        x.height(0, 999);
        Due.be("a LAKE on high", x.runOut(0, 300), 3);
        Due.be("the LAKE's own CELL first", x.arrives(0), 0);
        Due.be("a higher CELL from below isn't reached", x.runOut(1, 1000000), 399);
    }

    private static void lowestFirst() {
        LakeBreath x = new LakeBreath();
        x.land(2, 1);
        x.set(0, 4, 210);
        x.height(210, 10);
        for (int c : new int[] {190, 209, 211, 230}) {
            x.height(c, 5);
        }
        x.height(211, 4);
        x.height(212, 31);
        x.height(191, 30);
        x.height(231, 2);
        Due.be("of cells", x.runOut(0, 600), 6);
        Due.be("its CELL", x.arrives(210), 0);
        Due.be("the lowest beside it", x.arrives(211), 1);
        Due.be("then what that opens", x.arrives(231), 2);
        Due.be("the lowest again", x.arrives(232), 3);
        Due.be("of as low ones the least number", x.arrives(233), 4);
        Due.be("a number less is taken as it is met", x.arrives(213), 5);
        Due.be("too high", x.arrives(212), -2);
        Due.be("later ones aren't reached", x.arrives(190), -2);
        LakeBreath y = new LakeBreath();
        y.land(2, 1);
        y.set(0, 4, 19);
        y.runOut(0, 400);
        Due.be("no way over the edge", y.arrives(20), -2);
        Due.be("along the edge", y.arrives(18), 1);
        y.height(18, 300);
        y.height(39, 300);
        Due.be("at the right edge", y.runOut(0, 400), 1);
        y.set(0, 4, 20);
        for (int c : new int[] {0, 21, 40}) {
            y.height(c, 300);
        }
        Due.be("at the left edge", y.runOut(0, 400), 1);
        y.height(40, 0);
        Due.be("downwards", y.runOut(0, 200), 2);
        Due.be("downwards", y.arrives(40), 1);
        Due.be("upwards", y.set(0, 4, 40) && y.runOut(0, 200) == 2 && y.arrives(20) == 1, true);
    }

    private static void arrives() {
        LakeBreath x = new LakeBreath();
        Due.be("ahead of any", x.arrives(0), -1);
        x.runOut(0, 1100);
        Due.be("arrives cell", x.arrives(-1), -1);
        Due.be("arrives cell", x.arrives(400), -1);
        Due.be("downwards", x.arrives(4), 0);
        Due.be("by SPEED", x.arrives(5), 1);
        Due.be("by SPEED", x.arrives(10), 2);
        Due.be("not reached", x.arrives(11), -2);
        x.land(2, 50);
        x.land(1, 10000);
        x.height(5, 999);
        x.set(0, 4, 200);
        Due.be("as it was when it was asked for", x.arrives(5), 1);
        x.runOut(0, -1);
        x.runOut(2, 1);
        Due.be("the latest that told a number", x.arrives(10), 2);
        x.runOut(0, 0);
        Due.be("none is reached", x.arrives(200), -2);
    }

    private static void village() {
        LakeBreath x = new LakeBreath();
        Due.refused("village cell", x, x.village(-1, 1), 1);
        Due.refused("village cell", x, x.village(400, 0), 1);
        Due.refused("village folk", x, x.village(0, 0), 2);
        Due.refused("village folk", x, x.village(0, 10000), 2);
        for (int i = 0; i < 20; i++) {
            Due.be("village", x.village(i < 2 ? 399 : i, i == 0 ? 9999 : 1), i);
        }
        Due.be("trouble", x.trouble(), 0);
        Due.refused("a 21st", x, x.village(0, 1), 3);
        Due.refused("2 ahead of 3", x, x.village(0, 0), 2);
        Due.be("VILLAGES", x.count(4), 20);
    }

    private static void climb() {
        LakeBreath x = new LakeBreath();
        x.village(4, 10);
        x.village(200, 10);
        Due.refused("climb ahead of any", x, x.climb(0, 0), 1);
        Due.refused("climb ahead of any", x, x.climb(0, 501), 1);
        x.land(2, 1);
        x.runOut(0, 600);
        Due.refused("climb village", x, x.climb(2, 0), 1);
        Due.refused("climb village", x, x.climb(-1, -1), 1);
        Due.refused("climb minutes", x, x.climb(0, -1), 2);
        Due.refused("climb minutes", x, x.climb(0, 501), 2);
        Due.be("not reached", x.climb(1, 500), 0);
        Due.be("trouble", x.trouble(), 0);
        Due.be("one step", x.climb(0, 0), 2);
        Due.be("one step, just in time", x.climb(0, 3), 2);
        Due.be("the first one must be left, too", x.climb(0, 4), -2);
        Due.be("-2 isn't refused", x.trouble(), 0);
        Due.be("along, then aside", x.climb(1, 0), 0);
        x.height(24, 95);
        Due.be("another way", x.climb(0, 0), 4);
        Due.be("each CELL on the way is left ahead of the gas", x.climb(0, 2), 4);
        Due.be("too late for another way", x.climb(0, 3), 11);
        for (int c : new int[] {6, 23, 25}) {
            x.height(c, 95);
        }
        Due.be("a 10th of how much higher it is now, downwards", x.climb(0, 0), 11);
    }

    private static void climbHeights() {
        LakeBreath x = new LakeBreath();
        x.land(2, 1);
        x.land(0, 200);
        x.village(2, 10);
        x.height(0, 100);
        x.height(2, 100);
        Due.be("all", x.runOut(0, 40000), 400);
        Due.be("the last one", x.arrives(2), 399);
        Due.be("no CELL that isn't reached", x.climb(0, 0), -2);
        x.set(0, 4, 60);
        x.height(60, 50);
        x.runOut(0, 1);
        Due.be("a new one", x.climb(0, 500), 0);
        LakeBreath y = new LakeBreath();
        y.land(2, 1);
        for (int i = 0; i < 20; i++) {
            y.height(20 + i, 100);
        }
        y.runOut(0, 800);
        y.village(7, 10);
        Due.be("up the slope or along", y.climb(0, 0), 4 - 2);
        y.height(8, 100);
        Due.be("both are higher now", y.climb(0, 0), 12);
        y.height(27, 0);
        Due.be("lower is no more than 2", y.climb(0, 0), 2);
        y.village(6, 10);
        Due.be("from CELL to CELL", y.climb(1, 0), 4);
        Due.be("each left ahead of the gas", y.climb(1, 4), 4);
        Due.be("on the way it comes", y.climb(1, 5), 12);
        Due.be("at once it is there", y.climb(1, 6), -2);
    }

    /** One way out at a time, by each side; the land's edges are no ways. */
    private static void climbSides() {
        int[] sides = {-20, -1, 1, 20};
        for (int open : sides) {
            LakeBreath x = new LakeBreath();
            x.land(2, 1);
            x.set(0, 4, 210 - open);
            x.height(210 - open, 40);
            for (int side : sides) {
                x.height(210 + side, side == open ? 61 : side == -open ? 40 : 500);
                x.height(210 - open + side, side == open ? 20 : 500);
            }
            x.height(210, 20);
            Due.be("to the village", x.runOut(0, 200), 2);
            Due.be("at its side", x.arrives(210), 1);
            x.village(210, 1);
            Due.be("by the open side " + open, x.climb(0, 0), 2 + 4);
        }
        LakeBreath y = new LakeBreath();
        y.set(0, 4, 39);
        y.land(2, 1);
        for (int c : new int[] {19, 38, 60}) {
            y.height(c, 990);
        }
        y.runOut(0, 200);
        Due.be("by the right edge", y.arrives(59), 1);
        y.village(59, 1);
        y.height(58, 990);
        y.height(79, 980);
        Due.be("no way over the right edge", y.climb(0, 0), 100);
        LakeBreath z = new LakeBreath();
        z.set(0, 4, 60);
        z.land(2, 1);
        for (int c : new int[] {61, 80}) {
            z.height(c, 990);
        }
        z.runOut(0, 200);
        Due.be("by the left edge", z.arrives(40), 1);
        z.village(40, 1);
        z.height(41, 990);
        z.height(20, 980);
        Due.be("no way over the left edge", z.climb(0, 0), 100);
    }

    private static void lost() {
        LakeBreath x = new LakeBreath();
        x.village(2, 50);
        x.village(3, 7);
        x.village(399, 1000);
        Due.refused("lost ahead of any", x, x.lost(0), 1);
        Due.refused("lost ahead of any", x, x.lost(501), 1);
        x.land(2, 1);
        x.runOut(0, 400);
        Due.refused("lost minutes", x, x.lost(-1), 2);
        Due.refused("lost minutes", x, x.lost(501), 2);
        Due.be("none", x.lost(1), 0);
        Due.be("trouble", x.trouble(), 0);
        Due.be("some", x.lost(2), 50);
        Due.be("more", x.lost(3), 57);
        Due.be("more", x.lost(500), 57);
        x.moved(0, true);
        Due.be("who aren't MOVED", x.lost(3), 7);
        x.moved(0, false);
        Due.be("and come back", x.lost(3), 57);
        Due.be("climb of one that is MOVED", x.moved(0, true) && x.climb(0, 1) == 2, true);
    }

    private static void moved() {
        LakeBreath x = new LakeBreath();
        Due.denied("moved none", x, x.moved(0, true), 1);
        Due.denied("moved none", x, x.moved(-1, false), 1);
        x.village(7, 5);
        x.village(7, 5);
        Due.denied("not moved", x, x.moved(0, false), 5);
        Due.granted("moved", x, x.moved(0, true));
        Due.denied("moved already", x, x.moved(0, true), 5);
        Due.be("those MOVED", x.count(5), 1);
        Due.rule(x, "live if height > 5 or lake = 0");
        Due.denied("RULES don't let it", x, x.moved(0, false), 6);
        Due.denied("5 ahead of 6", x, x.moved(1, false), 5);
        Due.granted("away they may", x, x.moved(1, true));
        Due.be("those MOVED", x.count(5), 2);
        x.height(7, 6);
        Due.granted("come back", x, x.moved(0, false));
        Due.be("those MOVED", x.count(5), 1);
    }
}
