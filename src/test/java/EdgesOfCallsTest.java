/** Promises 2 to 38: of every call each number at its bounds, just beyond, and as small and large as an int is. */
public final class EdgesOfCallsTest {
    private static final int[] LAKE = Edges.number(0, 0, 1, 1);
    private static final int[] LAYER = Edges.number(9, 0, 9, 1);
    private static final int[] CELL = Edges.number(21, 0, 399, 1);

    public static void main(String[] args) {
        lakes();
        sets();
        asked();
        pipes();
        rules();
        strings();
        land();
        days();
        Due.end();
    }

    private static int as(boolean answer) {
        return answer ? 1 : 0;
    }

    /** The same bounds for a call that tells no trouble. */
    private static int[] quiet(int... number) {
        return Edges.number(number[0], number[1], number[2], Edges.NO_TROUBLE);
    }

    private static void lakes() {
        Edges.bounds("P2 layer", Edges::some, (x, n) -> as(x.layer(n[0], n[1], n[2], n[3], n[4])), 0, LAKE, LAYER,
                Edges.number(500, 0, 100000, 2), Edges.number(50, 0, 400, 2), Edges.number(70, 0, 1000, 2));
        Edges.bounds("P8 until", Edges::some, (x, n) -> x.until(n[0], n[1]), -1, LAKE, Edges.number(50, 1, 999, 2));
    }

    private static void sets() {
        int[][] bounds = {{1, 10000}, {0, 20000}, {0, 10000}, {2, 1000}, {0, 399}};
        Edges.bounds("P3 set", Edges::some, (x, n) -> as(x.set(n[0], n[1], 5)), 0, LAKE, Edges.number(2, 0, 4, 1));
        for (int what = 0; what < 5; what++) {
            int w = what;
            Edges.bounds("P3 set " + what, Edges::some, (x, n) -> as(x.set(n[0], w, n[1])), 0, LAKE,
                    Edges.number(5, bounds[what][0], bounds[what][1], 2));
        }
    }

    /** Calls that tell no trouble. */
    private static void asked() {
        int[] lake = quiet(0, 0, 1);
        int[] layer = quiet(9, 0, 9);
        int[] cell = quiet(21, 0, 399);
        Edges.bounds("P4 of", Edges::some, (x, n) -> x.of(n[0], n[1], n[2]), Edges.NO_NUMBER, lake, layer,
                quiet(0, 0, 6));
        Edges.bounds("P5 full, told", Edges::some, (x, n) -> x.full(n[0], true), -1, lake);
        Edges.bounds("P5 full, as it is", Edges::some, (x, n) -> x.full(n[0], false), -1, lake);
        Edges.bounds("P6 led", Edges::some, (x, n) -> x.led(n[0], n[1]), Edges.NO_NUMBER, lake, quiet(0, 0, 5));
        Edges.bounds("P7 burst", Edges::some, (x, n) -> x.burst(n[0]), -1, lake);
        Edges.bounds("P10 pipeOf", Edges::some, (x, n) -> x.pipeOf(n[0], n[1]), -1, quiet(0, 0, 2), quiet(1, 0, 4));
        Edges.bounds("P22 says", Edges::some, (x, n) -> x.says(n[0], n[1]), -1, lake, quiet(0, 0, 2));
        Edges.bounds("P23 may", Edges::some, (x, n) -> x.may(n[0]), -1, cell);
        Edges.bounds("P26 known", Edges::some, (x, n) -> x.known(n[0], n[1], n[2]), Edges.NO_NUMBER, lake, layer,
                quiet(1, 0, 2));
        Edges.bounds("P27 right, LAKE", Edges::some, (x, n) -> x.right(n[0], 9, 2), Edges.NO_NUMBER, lake);
        Edges.bounds("P27 right, LAYER", Edges::everyReading, (x, n) -> x.right(0, n[0], 2), Edges.NO_NUMBER, layer);
        Edges.bounds("P27 right, DAY", Edges::everyReading, (x, n) -> x.right(0, 9, n[0]), Edges.NO_NUMBER,
                quiet(2, 0, 2));
        Edges.bounds("P31 arrives", Edges::some, (x, n) -> x.arrives(n[0]), -1, cell);
        Edges.bounds("P37 count", Edges::some, (x, n) -> x.count(n[0]), -1, quiet(0, 0, 9));
    }

    private static void pipes() {
        Edges.bounds("P9 pipe", Edges::some, (x, n) -> x.pipe(n[0], n[1], n[2], n[3]), -1, LAKE, LAYER,
                Edges.number(10, 1, 500, 2), Edges.number(20, 0, 100000, 2));
        Edges.bounds("P11 move", Edges::some, (x, n) -> as(x.move(n[0], n[1])), 0, Edges.number(1, 0, 2, 1),
                Edges.number(5, 0, 9, 1));
        Edges.bounds("P12 start", Edges::some, (x, n) -> as(x.start(n[0])), 0, Edges.number(0, 0, 2, 1));
        Edges.bounds("P13 plan", Edges::some, (x, n) -> x.plan(n[0], n[1]), -1, LAKE, Edges.number(60, 1, 200, 2));
        Edges.bounds("P15 check", Edges::some, (x, n) -> x.check(n[0], n[1], n[2], n[3], 99), -1, LAKE,
                Edges.number(60, 1, 200, 2), Edges.number(9, 0, 9, 2), Edges.number(9, 0, 9, 2));
    }

    private static void rules() {
        Edges.bounds("P20 repeal", Edges::some, (x, n) -> as(x.repeal(n[0])), 0, Edges.number(0, 0, 1, 1));
        Edges.bounds("P21 wind", Edges::some, (x, n) -> as(x.wind(n[0])), 0, Edges.number(7, 0, 99, 2));
        for (int n : new int[] {-1, 21, Edges.LEAST, Edges.MOST}) {
            Edges.refused("P17 rule", Edges::some, (x, m) -> x.rule(m[0]), -1, 2, n);
        }
    }

    private static void strings() {
        Edges.bounds("P24 reading", Edges::some, (x, n) -> as(x.reading(n[0], n[1], n[2])), 0, LAKE, LAYER,
                Edges.number(500, 0, 100000, 2));
        Edges.bounds("P25 sounding", Edges::everyReading, (x, n) -> x.sounding(n[0], n[1], n[2]), Edges.NO_NUMBER,
                LAKE, LAYER, Edges.number(500, 0, 100000, 2));
    }

    private static void land() {
        Edges.bounds("P28 height", Edges::some, (x, n) -> as(x.height(n[0], n[1])), 0, CELL,
                Edges.number(30, 0, 999, 2));
        int[][] bounds = {{0, 200}, {1, 10000}, {1, 50}};
        Edges.bounds("P29 land", Edges::some, (x, n) -> as(x.land(n[0], 5)), 0, Edges.number(0, 0, 2, 1));
        for (int what = 0; what < 3; what++) {
            int w = what;
            Edges.bounds("P29 land " + what, Edges::some, (x, n) -> as(x.land(w, n[0])), 0,
                    Edges.number(5, bounds[what][0], bounds[what][1], 2));
        }
        Edges.bounds("P30 runOut", Edges::some, (x, n) -> x.runOut(n[0], n[1]), -1, LAKE,
                Edges.number(700, 0, 1000000, 2));
        Edges.bounds("P32 village", Edges::some, (x, n) -> x.village(n[0], n[1]), -1, CELL,
                Edges.number(30, 1, 9999, 2));
        Edges.bounds("P33 climb", Edges::some, (x, n) -> x.climb(n[0], n[1]), -1, Edges.number(0, 0, 1, 1),
                Edges.number(3, 0, 500, 2));
        Edges.bounds("P34 lost", Edges::some, (x, n) -> x.lost(n[0]), -1, Edges.number(3, 0, 500, 2));
        Edges.bounds("P35 moved away", Edges::noneMoved, (x, n) -> as(x.moved(n[0], true)), 0,
                Edges.number(0, 0, 1, 1));
        Edges.bounds("P35 moved back", Edges::allMoved, (x, n) -> as(x.moved(n[0], false)), 0,
                Edges.number(0, 0, 1, 1));
    }

    private static void days() {
        Edges.bounds("P36 pass", Edges::some, (x, n) -> x.pass(n[0]), -1, Edges.number(3, 1, 60, 2));
    }
}
