/** Terms VI and promises 28 to 35, sentence by sentence: heights, RUN-OUT, CLIMB and VILLAGES at their edges. */
public final class EdgesOfLandTest {
    public static void main(String[] args) {
        thicks();
        rise();
        risesHigh();
        bySides();
        lowestThenLeast();
        higherFromBelow();
        ownCell();
        speed();
        asItWas();
        latestRunOut();
        aheadOfAny();
        villages();
        notReached();
        inTime();
        tenths();
        onTheWay();
        fewest();
        byEachSide();
        noWay();
        lost();
        moved();
        comeBack();
        Due.end();
    }

    private static void thicks() {
        int[][] rows = {{100, 0, 0}, {100, 1, 1}, {100, 99, 1}, {100, 100, 1}, {100, 101, 2}, {100, 200, 2},
            {100, 201, 3}, {1, 0, 0}, {1, 1, 1}, {1, 2, 2}, {1, 399, 399}, {1, 400, 400}, {1, 401, 400},
            {1, 1000000, 400}, {10000, 1, 1}, {10000, 10000, 1}, {10000, 10001, 2}, {10000, 1000000, 100},
            {2506, 1000000, 400}, {2507, 1000000, 399}, {9999, 1000000, 101}, {10000, 999999, 100},
            {10000, 990000, 99}, {10000, 990001, 100}};
        for (int[] row : rows) {
            LakeBreath x = new LakeBreath();
            x.land(1, row[0]);
            x.land(2, 1);
            String what = "P30: THICK " + row[0] + ", amount " + row[1];
            Due.be(what, x.runOut(0, row[1]), row[2]);
            Due.be(what + ", trouble", x.trouble(), 0);
            int reached = 0;
            for (int cell = 0; cell < 400; cell++) {
                reached += x.arrives(cell) == -2 ? 0 : 1;
            }
            Due.be(what + ", CELLS reached", reached, row[2]);
        }
        LakeBreath x = new LakeBreath();
        Due.be("P30: THICK 100 until told, whole", x.runOut(1, 500), 5);
        Due.be("P30: THICK 100 until told, begun", x.runOut(1, 501), 6);
        LakeBreath y = new LakeBreath();
        y.height(1, 21);
        y.height(20, 21);
        Due.be("P30: no more CELLS than there are to come to", y.runOut(0, 1000000), 1);
        y.height(399, 999);
        y.height(20, 20);
        Due.be("P30: all but two", y.runOut(0, 1000000), 398);
    }

    private static void rise() {
        int[][] rows = {{0, 0, 0, 1}, {0, 0, 1, 0}, {0, 500, 500, 1}, {0, 500, 501, 0}, {20, 0, 20, 1}, {20, 0, 21, 0},
            {200, 0, 200, 1}, {200, 0, 201, 0}, {200, 799, 999, 1}, {199, 799, 999, 0}, {200, 999, 999, 1},
            {1, 998, 999, 1}, {0, 998, 999, 0}, {0, 999, 0, 1}};
        for (int[] row : rows) {
            for (int lake = 0; lake < 2; lake++) {
                LakeBreath x = new LakeBreath();
                x.land(0, row[0]);
                x.set(lake, 4, 210);
                x.height(210, row[1]);
                for (int side : new int[] {-20, -1, 1, 20}) {
                    x.height(210 + side, row[2]);
                }
                Due.be("P30: RISE, the LAKE's CELL, beside it " + java.util.Arrays.toString(row),
                        x.runOut(lake, 101), 1 + row[3]);
            }
        }
        LakeBreath x = new LakeBreath();
        x.height(1, 20);
        x.height(20, 21);
        Due.be("P30: RISE 20 until told", x.runOut(0, 200), 2);
        Due.be("P31: over 20", x.arrives(1), 0);
        Due.be("P31: not over 21", x.arrives(20), -2);
        LakeBreath y = new LakeBreath();
        y.height(0, 30);
        y.height(1, 50);
        y.height(20, 51);
        y.height(2, 51);
        y.height(21, 51);
        Due.be("P30: by the LAKE's CELL, not by the one beside", y.runOut(0, 100000), 2);
    }

    private static void risesHigh() {
        LakeBreath x = new LakeBreath();
        x.land(0, 200);
        for (int cell = 0; cell < 400; cell++) {
            x.height(cell, 999);
        }
        Due.be("P30: all as high as can be", x.runOut(1, 1000000), 400);
    }

    private static void bySides() {
        int[] cells = {0, 1, 19, 20, 39, 40, 210, 359, 360, 379, 380, 381, 398, 399};
        for (int cell : cells) {
            LakeBreath x = new LakeBreath();
            x.land(2, 1);
            x.set(0, 4, cell);
            int sides = 0;
            for (int other = 0; other < 400; other++) {
                int dx = Math.abs(other % 20 - cell % 20);
                int dy = Math.abs(other / 20 - cell / 20);
                if (dx + dy == 1) {
                    sides++;
                } else if (dx + dy > 1 && dx < 3 && dy < 3 || dx == 19 && dy < 2) {
                    x.height(other, 100);
                }
            }
            Due.be("P30: by its sides " + cell, x.runOut(0, 1000000), 1 + sides);
            for (int other : new int[] {cell - 20, cell - 1, cell + 1, cell + 20}) {
                boolean beside = other >= 0 && other < 400
                        && Math.abs(other % 20 - cell % 20) + Math.abs(other / 20 - cell / 20) == 1;
                if (other >= 0 && other < 400) {
                    Due.be("P31: beside " + cell + ", " + other, x.arrives(other) > 0, beside);
                }
            }
        }
    }

    private static void lowestThenLeast() {
        LakeBreath x = new LakeBreath();
        x.land(2, 1);
        x.runOut(0, 40000);
        for (int cell : new int[] {0, 1, 19, 20, 21, 200, 398, 399}) {
            Due.be("P31: on flat land by their numbers", x.arrives(cell), cell);
        }
        LakeBreath y = new LakeBreath();
        y.land(2, 1);
        y.set(1, 4, 210);
        y.height(190, 3);
        y.height(209, 2);
        y.height(211, 2);
        y.height(230, 1);
        for (int cell : new int[] {170, 189, 191, 208, 212, 229, 231, 248, 269}) {
            y.height(cell, 20);
        }
        y.height(250, 4);
        for (int cell : new int[] {249, 251, 270}) {
            y.height(cell, 19);
        }
        y.runOut(1, 700);
        int[] order = {210, 230, 209, 211, 190, 250, 249};
        for (int i = 0; i < order.length; i++) {
            Due.be("P31: the lowest, of as low ones the least number", y.arrives(order[i]), i);
        }
        Due.be("P31: the next of them", y.arrives(251), -2);
        y.runOut(1, 800);
        Due.be("P31: one more", y.arrives(251), 7);
        // What is opened later may be lower than what has waited.
        LakeBreath z = new LakeBreath();
        z.land(2, 1);
        z.height(1, 5);
        z.height(20, 6);
        z.height(2, 7);
        z.height(21, 4);
        z.runOut(0, 300);
        Due.be("P31: the lower that is opened later", z.arrives(21), 2);
        Due.be("P31: what has waited", z.arrives(20), -2);
    }

    private static void higherFromBelow() {
        // Down from the LAKE, up again no higher than the LAKE's CELL and RISE.
        LakeBreath x = new LakeBreath();
        x.land(0, 5);
        x.set(0, 4, 20);
        for (int i = 0; i < 20; i++) {
            x.height(i, 999);
            x.height(40 + i, 999);
        }
        int[] heights = {100, 50, 0, 105, 105, 106};
        for (int i = 0; i < 6; i++) {
            x.height(20 + i, heights[i]);
        }
        Due.be("P30: up again as high", x.runOut(0, 1000000), 5);
        Due.be("P31: one higher", x.arrives(25), -2);
    }

    private static void ownCell() {
        LakeBreath x = new LakeBreath();
        x.land(2, 1);
        x.height(0, 999);
        Due.be("P30: its own CELL, however high", x.runOut(0, 1), 1);
        Due.be("P31", x.arrives(0), 0);
        x.land(0, 0);
        x.height(0, 10);
        Due.be("P30: its own CELL first, lower ones then", x.runOut(0, 200), 2);
        Due.be("P31: its own CELL", x.arrives(0), 0);
        Due.be("P31: the lower one", x.arrives(1), 1);
        x.set(1, 4, 0);
        Due.be("P30: both LAKES at one CELL", x.runOut(1, 1) + x.arrives(0), 1);
    }

    private static void speed() {
        for (int speed : new int[] {1, 2, 5, 49, 50}) {
            LakeBreath x = new LakeBreath();
            x.land(2, speed);
            x.runOut(0, 40000);
            for (int cell : new int[] {0, 1, speed - 1, speed, speed + 1, 2 * speed - 1, 2 * speed, 398, 399}) {
                Due.be("P31: CELLS ahead of it by SPEED " + speed, x.arrives(cell), cell / speed);
            }
        }
        LakeBreath x = new LakeBreath();
        x.runOut(0, 40000);
        Due.be("P31: SPEED 5 until told, the fifth", x.arrives(4), 0);
        Due.be("P31: SPEED 5 until told, the sixth", x.arrives(5), 1);
    }

    private static void asItWas() {
        LakeBreath x = new LakeBreath();
        x.runOut(0, 1000);
        x.land(0, 0);
        x.land(1, 1);
        x.land(2, 50);
        x.set(0, 4, 100);
        x.height(9, 999);
        Due.be("P31: as it was when it was asked for", x.arrives(9), 1);
        Due.be("P31: nor further", x.arrives(10), -2);
        Due.be("P31: nor elsewhere", x.arrives(100), -2);
        x.pass(5);
        Due.be("P31: DAYS later", x.arrives(9), 1);
    }

    private static void latestRunOut() {
        LakeBreath x = new LakeBreath();
        x.village(0, 5);
        x.runOut(0, 100);
        x.runOut(0, -1);
        x.runOut(0, 1000001);
        x.runOut(2, 0);
        x.runOut(-1, 0);
        Due.be("P31: a refused one is none", x.arrives(0), 0);
        Due.be("P33: nor for CLIMB", x.climb(0, 0), -2);
        Due.be("P34: nor for who is lost", x.lost(0), 5);
        x.runOut(1, 0);
        Due.be("P31: one of none", x.arrives(0), -2);
        Due.be("P31: one of none, its own CELL", x.arrives(399), -2);
        Due.be("P33: none to flee", x.climb(0, 500), 0);
        Due.be("P34: none is lost", x.lost(500), 0);
        Due.be("P31: no such CELL", x.arrives(400), -1);
    }

    private static void aheadOfAny() {
        LakeBreath x = new LakeBreath();
        x.village(0, 5);
        Due.be("P31: ahead of any", x.arrives(0), -1);
        Due.be("P31: ahead of any, no such CELL", x.arrives(400), -1);
        Due.refused("P33: ahead of any", x, x.climb(0, 0), 1);
        Due.refused("P33: ahead of any, 1 ahead of 2", x, x.climb(0, 501), 1);
        Due.refused("P34: ahead of any", x, x.lost(0), 1);
        Due.refused("P34: ahead of any, 1 ahead of 2", x, x.lost(-1), 1);
        x.runOut(2, 5);
        x.runOut(0, -5);
        Due.be("P31: refused ones are none", x.arrives(0), -1);
        Due.refused("P33: refused ones are none", x, x.climb(0, 0), 1);
        Due.refused("P34: refused ones are none", x, x.lost(0), 1);
        x.runOut(0, 0);
        Due.be("P31: then", x.arrives(0), -2);
        Due.be("P33: then", x.climb(0, 0), 0);
        Due.refused("P33: then 2", x, x.climb(0, 501), 2);
        Due.refused("P34: then 2", x, x.lost(501), 2);
        Due.be("P34: then", x.lost(0), 0);
    }

    private static LakeBreath villages(int n) {
        LakeBreath x = new LakeBreath();
        for (int i = 0; i < n; i++) {
            x.village(i, i + 1);
        }
        x.runOut(0, 100);
        return x;
    }

    private static void villages() {
        Due.be("P32: the first", villages(0).village(399, 1), 0);
        Due.be("P32: the 20th", villages(19).village(0, 9999), 19);
        Edges.refused("P32: a 21st", () -> villages(20), (x, n) -> x.village(0, 1), -1, 3);
        Edges.refused("P32: 2 ahead of 3", () -> villages(20), (x, n) -> x.village(0, 0), -1, 2);
        Edges.refused("P32: 1 ahead of 3", () -> villages(20), (x, n) -> x.village(400, 1), -1, 1);
        Due.be("P37: VILLAGES", villages(20).count(4), 20);
        LakeBreath x = villages(20);
        Due.be("P33: the 20th", x.climb(19, 0), 0);
        Due.refused("P33: no 21st", x, x.climb(20, 0), 1);
        Due.granted("P35: the 20th", x, x.moved(19, true));
        Due.denied("P35: no 21st", x, x.moved(20, true), 1);
        LakeBreath y = new LakeBreath();
        y.village(5, 9999);
        y.village(5, 1);
        y.runOut(0, 0);
        y.set(0, 4, 5);
        y.runOut(0, 1);
        Due.be("P34: two at one CELL", y.lost(0), 10000);
        LakeBreath z = new LakeBreath();
        for (int i = 0; i < 20; i++) {
            z.village(0, 9999);
        }
        z.runOut(0, 1);
        Due.be("P34: all the folk there can be", z.lost(500), 199980);
    }

    /** A VILLAGE at the end of a valley; the gas comes to its i-th CELL in minute i; the slopes are of a height. */
    private static LakeBreath valley(int slope, int reached) {
        LakeBreath x = new LakeBreath();
        x.land(2, 1);
        x.land(0, 0);
        for (int i = 0; i < 20; i++) {
            x.height(20 + i, slope);
        }
        x.runOut(0, 100 * reached);
        return x;
    }

    private static void notReached() {
        LakeBreath x = valley(1, 5);
        x.village(5, 1);
        x.village(4, 1);
        for (int minutes : new int[] {0, 1, 499, 500}) {
            Due.be("P33: not reached", x.climb(0, minutes), 0);
            Due.be("P33: trouble", x.trouble(), 0);
        }
        Due.be("P33: reached", x.climb(1, 0), 2);
    }

    private static void inTime() {
        for (int cell = 0; cell < 8; cell++) {
            LakeBreath x = valley(1, 8);
            x.village(cell, 3);
            for (int minutes = 0; minutes < 10; minutes++) {
                // A step by the side, up one: 2 minutes, to a CELL that isn't reached.
                int due = minutes < cell ? 2 : -2;
                Due.be("P33: at " + cell + " in minute " + minutes, x.climb(0, minutes), due);
                Due.be("P34: at " + cell + " in minute " + minutes, x.lost(minutes), due == -2 ? 3 : 0);
            }
            Due.be("P33: the largest number of minutes", x.climb(0, 500), -2);
        }
        LakeBreath x = new LakeBreath();
        x.land(2, 1);
        x.village(399, 1);
        x.runOut(0, 40000);
        x.set(0, 4, 0);
        Due.be("P33: no CELL that isn't reached", x.climb(0, 0), -2);
        LakeBreath y = new LakeBreath();
        y.village(0, 1);
        y.village(4, 1);
        y.village(5, 1);
        y.runOut(0, 600);
        Due.be("P33: the gas is there at once", y.climb(0, 0), -2);
        Due.be("P33: in the same minute", y.climb(1, 0), -2);
        Due.be("P33: a minute ahead of it", y.climb(2, 0), 2);
        Due.be("P33: as it comes", y.climb(2, 1), -2);
    }

    private static void tenths() {
        int[][] rows = {{0, 0, 2}, {0, 9, 2}, {0, 10, 3}, {0, 19, 3}, {0, 20, 4}, {0, 99, 11}, {0, 100, 12},
            {0, 999, 101}, {9, 19, 3}, {10, 19, 2}, {500, 0, 2}, {999, 0, 2}, {999, 999, 2}, {990, 999, 2},
            {989, 999, 3}};
        for (int[] row : rows) {
            LakeBreath x = valley(1, 20);
            x.village(19, 1);
            // Heights are those of now; the way back along the valley leads nowhere else.
            x.height(18, 999);
            x.height(19, row[0]);
            x.height(39, row[1]);
            int back = 2 + (999 - row[0]) / 10 + 2;
            Due.be("P33: a step from height " + row[0] + " to " + row[1], x.climb(0, 0),
                    back < row[2] && back - 2 < 18 ? back : row[2]);
        }
    }

    private static void onTheWay() {
        // Along the valley to CELL 12, the first that isn't reached; the slopes are too high to be sooner.
        for (int cell = 1; cell < 12; cell++) {
            LakeBreath x = valley(999, 12);
            x.village(cell, 1);
            for (int minutes = 0; minutes < 14; minutes++) {
                boolean along = true;
                for (int c = cell; c < 12; c++) {
                    along &= minutes + 2 * (c - cell) < c;
                }
                int due = along ? 2 * (12 - cell) : minutes < cell ? 101 : -2;
                Due.be("P33: along from " + cell + " in minute " + minutes, x.climb(0, minutes), due);
            }
        }
    }

    private static void fewest() {
        LakeBreath x = valley(200, 15);
        x.village(10, 1);
        Due.be("P33: ten minutes along", x.climb(0, 0), 10);
        x.height(30, 89);
        Due.be("P33: ten minutes up", x.climb(0, 0), 10);
        x.height(30, 79);
        Due.be("P33: nine minutes up", x.climb(0, 0), 9);
        x.height(30, 200);
        x.height(31, 60);
        Due.be("P33: one along, eight up", x.climb(0, 0), 10);
        x.height(31, 59);
        Due.be("P33: one along, seven up", x.climb(0, 0), 9);
        x.height(31, 200);
        x.height(29, 40);
        Due.be("P33: one back, six up", x.climb(0, 0), 8);
        Due.be("P33: one back in time", x.climb(0, 6), 8);
        Due.be("P33: one back too late", x.climb(0, 7), 22);
        x.height(10, 200);
        Due.be("P33: the first one is as high now", x.climb(0, 7), 2);
    }

    /** Folk may climb by each side; the gas comes by the other one. */
    private static void byEachSide() {
        for (int side : new int[] {-20, -1, 1, 20}) {
            LakeBreath x = new LakeBreath();
            x.land(2, 1);
            x.set(0, 4, 210 - side);
            for (int other : new int[] {-20, -1, 1, 20}) {
                x.height(210 + other, other == -side ? 0 : 999);
                x.height(210 - side + other, other == side ? 0 : 999);
            }
            Due.be("P30: the LAKE and the VILLAGE", x.runOut(0, 40000), 2);
            x.village(210, 1);
            Due.be("P33: all sides are as high", x.climb(0, 0), 101);
            x.height(210 + side, 100);
            Due.be("P33: by the side " + side, x.climb(0, 0), 12);
        }
    }

    private static void noWay() {
        LakeBreath x = new LakeBreath();
        x.land(2, 1);
        x.land(0, 200);
        x.village(399, 1);
        x.runOut(0, 40000);
        Due.be("P33: all is reached", x.climb(0, 0), -2);
        Due.be("P33: -2 isn't refused", x.trouble(), 0);
        Due.be("P34: and counted", x.lost(0), 1);
        x.runOut(0, 39900);
        Due.be("P33: its own CELL isn't reached", x.climb(0, 0), 0);
        // The land ends at its sides: from 19 no step leads to 20.
        LakeBreath y = new LakeBreath();
        y.land(2, 1);
        y.set(0, 4, 18);
        y.height(38, 999);
        y.height(39, 989);
        y.height(17, 999);
        Due.be("P30", y.runOut(0, 200), 2);
        y.village(19, 1);
        Due.be("P33: no step over the edge", y.climb(0, 0), 100);
    }

    private static void lost() {
        LakeBreath x = valley(1, 20);
        for (int i = 0; i < 20; i++) {
            x.village(i, 1 << Math.min(i, 13));
        }
        int sum = 0;
        for (int minutes = 0; minutes < 20; minutes++) {
            sum += 1 << Math.min(minutes, 13);
            Due.be("P34: in minute " + minutes, x.lost(minutes), sum);
        }
        Due.be("P34: in minute 500", x.lost(500), sum);
        for (int i = 0; i < 20; i++) {
            x.moved(i, true);
            sum -= 1 << Math.min(i, 13);
            Due.be("P34: those who aren't MOVED", x.lost(500), sum);
        }
        Due.be("P34: all are MOVED", x.lost(500), 0);
        x.moved(13, false);
        Due.be("P34: one COMES BACK", x.lost(500), 8192);
        Due.be("P33: of one that is MOVED, too", x.climb(5, 0), 2);
    }

    private static LakeBreath ruled(String text, boolean away) {
        LakeBreath x = new LakeBreath();
        x.village(21, 5);
        x.village(0, 6);
        x.height(21, 30);
        x.runOut(1, 100);
        x.moved(0, away);
        Due.rule(x, text);
        return x;
    }

    private static void moved() {
        Edges.refused("P35: moved already", () -> ruled("live if 1=1", true), (x, n) -> x.moved(0, true) ? 1 : 0, 0, 5);
        Edges.refused("P35: not moved", () -> ruled("live if 1=1", true), (x, n) -> x.moved(1, false) ? 1 : 0, 0, 5);
        Edges.refused("P35: 5 ahead of 6", () -> ruled("live if 1=2", true), (x, n) -> x.moved(1, false) ? 1 : 0, 0,
                5);
        Edges.refused("P35: RULES don't let it", () -> ruled("live if 1=2", true),
                (x, n) -> x.moved(0, false) ? 1 : 0, 0, 6);
        Edges.refused("P35: 1 ahead of 6", () -> ruled("live if 1=2", true), (x, n) -> x.moved(2, false) ? 1 : 0, 0,
                1);
        LakeBreath x = ruled("live if 1=2", false);
        Due.granted("P35: away without leave", x, x.moved(1, true));
        Due.be("P37: those MOVED", x.count(5), 1);
        Due.granted("P35: another", x, x.moved(0, true));
        Due.be("P37: those MOVED", x.count(5), 2);
        Due.denied("P35: RULES don't let it", x, x.moved(0, false), 6);
        Due.be("P37: those MOVED", x.count(5), 2);
        x.repeal(0);
        Due.granted("P35: without RULES", x, x.moved(0, false));
        Due.be("P37: those MOVED", x.count(5), 1);
        Due.denied("P35: not moved now", x, x.moved(0, false), 5);
        Due.be("P37: VILLAGES", x.count(4), 2);
    }

    private static void comeBack() {
        LakeBreath x = ruled("live if height > 29", true);
        x.moved(1, true);
        Due.granted("P35: its CELL is of 30", x, x.moved(0, false));
        Due.denied("P35: the other's isn't", x, x.moved(1, false), 6);
        x.moved(0, true);
        x.height(21, 29);
        Due.denied("P35: nor is it now", x, x.moved(0, false), 6);
        for (int lake = 0; lake < 2; lake++) {
            LakeBreath y = ruled("live if lake = " + lake, true);
            Due.denied("P35: by each LAKE", y, y.moved(0, false), 6);
        }
        LakeBreath z = ruled("siren if 1=1", true);
        Due.rule(z, "shut if 1=1");
        Due.rule(z, "work if 1=2");
        Due.granted("P35: other RULES are of no matter", z, z.moved(0, false));
    }
}
