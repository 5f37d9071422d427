/** Term VII and promises 36 to 38, sentence by sentence: DAYS, counts and TROUBLE at their edges. */
public final class EdgesOfDaysTest {
    public static void main(String[] args) {
        days();
        lastDay();
        bursts();
        asDayByDay();
        crew();
        counts();
        troubleAtFirst();
        troubleOfEach();
        troubleStays();
        troubleAgain();
        Due.end();
    }

    private static LakeBreath at(int day) {
        LakeBreath x = new LakeBreath();
        for (int left = day; left > 0; left -= 60) {
            x.pass(Math.min(left, 60));
        }
        return x;
    }

    private static void days() {
        for (int n : new int[] {1, 2, 59, 60}) {
            LakeBreath x = new LakeBreath();
            Due.be("P36: " + n + " DAYS", x.pass(n), 0);
            Due.be("P36: trouble", x.trouble(), 0);
            Due.be("P37: TODAY", x.count(6), n);
        }
        for (int n : new int[] {0, -1, 61, Edges.LEAST, Edges.MOST, 2999, 3000}) {
            LakeBreath x = new LakeBreath();
            Due.refused("P36: " + n + " DAYS", x, x.pass(n), 2);
            Due.be("P37: TODAY", x.count(6), 0);
        }
    }

    private static void lastDay() {
        int[][] rows = {{2939, 60, 1}, {2940, 59, 1}, {2940, 60, 0}, {2997, 2, 1}, {2997, 3, 0}, {2998, 1, 1},
            {2998, 2, 0}, {2999, 1, 0}, {2999, 60, 0}, {2999, 0, 0}, {2999, Edges.MOST, 0}, {2999, Edges.LEAST, 0}};
        for (int[] row : rows) {
            LakeBreath x = at(row[0]);
            x.set(0, 2, 3);
            x.repeal(0);
            String what = "P36: " + row[1] + " DAYS on DAY " + row[0];
            Due.be(what, x.pass(row[1]), row[2] == 1 ? 0 : -1);
            Due.be(what + ", trouble", x.trouble(), row[2] == 1 ? 0 : 2);
            Due.be(what + ", TODAY", x.count(6), row[0] + row[2] * row[1]);
            Due.be(what + ", SOURCES", x.led(0, 0), row[2] * row[1] * 3);
        }
        LakeBreath x = at(2999);
        Due.granted("P24: a READING on the last of the DAYS", x, x.reading(0, 0, 9));
        Due.be("P25: a SOUNDING", x.sounding(0, 0, 10), 1);
        Due.be("P27: right", x.right(0, 0, 2999), 10);
    }

    private static void bursts() {
        LakeBreath x = new LakeBreath();
        for (int lake = 0; lake < 2; lake++) {
            x.set(lake, 1, 20000);
        }
        Due.be("P36: none", x.pass(60), 0);
        x.set(0, 2, 1);
        Due.be("P36: one each DAY", x.pass(60), 60);
        Due.be("P37: BURSTS in all", x.count(7), 60);
        x.set(1, 2, 1);
        Due.be("P36: one each DAY of each LAKE", x.pass(60), 120);
        Due.be("P37: BURSTS in all", x.count(7), 180);
        Due.be("P36: of one DAY", x.pass(1), 2);
        x.burst(0);
        x.until(0, 5);
        x.plan(0, 5);
        Due.be("P37: BURSTS AHEAD are none", x.count(7), 182);
        x.set(0, 2, 0);
        x.set(1, 2, 0);
        Due.be("P36: none", x.pass(5), 0);
        Due.be("P37: BURSTS in all", x.count(7), 182);
    }

    /** So many DAYS at once are as these one by one. */
    private static void asDayByDay() {
        LakeBreath x = Edges.some();
        LakeBreath y = Edges.some();
        int bursts = x.pass(60);
        for (int i = 0; i < 60; i++) {
            bursts -= y.pass(1);
        }
        Due.be("P36: BURSTS", bursts, 0);
        Edges.unchanged("P36: 60 at once or one by one", x, y);
    }

    private static void crew() {
        LakeBreath x = new LakeBreath();
        Due.be("P37: THE CREW is nowhere at first", x.count(8), -2);
        x.pipe(1, 0, 1, 0);
        x.start(0);
        Due.be("P37: THE CREW is there", x.count(8), 1);
        x.pass(61);
        Due.be("P37: no DAY has gone by", x.count(8), 1);
        x.pass(60);
        Due.be("P37: DAYS have", x.count(8), -2);
        x.move(0, 0);
        Due.be("P37: refused it goes nowhere", x.count(8), -2);
        x.move(0, 1);
        Due.be("P37: MOVED it was there", x.count(8), 1);
    }

    private static void counts() {
        LakeBreath x = new LakeBreath();
        int[] first = {0, 0, 0, 0, 0, 0, 0, 0, -2, 0};
        for (int what = -2; what < 13; what++) {
            Due.be("P37: at first " + what, x.count(what), what >= 0 && what < 10 ? first[what] : -1);
        }
        for (int what : new int[] {Edges.LEAST, Edges.MOST}) {
            Due.be("P37: others " + what, x.count(what), -1);
        }
        x.pipe(0, 10, 1, 0);
        x.rule(0);
        x.reading(0, 0, -1);
        x.sounding(0, 0, 1);
        x.village(0, 0);
        x.moved(0, true);
        x.pass(0);
        x.start(0);
        for (int what = 0; what < 10; what++) {
            Due.be("P37: refused calls count none, " + what, x.count(what), first[what]);
        }
        LakeBreath y = Edges.some();
        int[] then = {3, 2, 4, 1, 2, 1, 2, 0, -2, 20};
        for (int what = 0; what < 10; what++) {
            Due.be("P37: then " + what, y.count(what), then[what]);
        }
        y.repeal(0);
        y.moved(1, false);
        y.rule(11);
        y.rule(0);
        int[] last = {3, 2, 4, 1, 2, 0, 2, 0, -2, 0};
        for (int what = 0; what < 10; what++) {
            Due.be("P37: at last " + what, y.count(what), last[what]);
        }
    }

    private static void troubleAtFirst() {
        LakeBreath x = new LakeBreath();
        Due.be("P38: at first", x.trouble(), 0);
        x.of(5, 5, 5);
        x.feed(0, 0, 0, 0, 0);
        Due.be("P38: no call yet that tells it", x.trouble(), 0);
    }

    /** A call that tells numbers of trouble, by its place here. */
    private static void tells(LakeBreath x, int which) {
        switch (which) {
            case 0 -> x.layer(0, 0, 1, 1, 1);
            case 1 -> x.set(0, 2, 5);
            case 2 -> x.until(0, 999);
            case 3 -> x.pipe(0, 0, 1, 0);
            case 4 -> x.move(0, 3);
            case 5 -> x.start(0);
            case 6 -> x.plan(0, 1);
            case 7 -> x.check(0, 1, 1, 1, 1);
            case 8 -> x.rule(11);
            case 9 -> x.repeal(0);
            case 10 -> x.wind(4);
            case 11 -> x.reading(0, 0, 4);
            case 12 -> x.sounding(0, 9, 4);
            case 13 -> x.height(7, 7);
            case 14 -> x.land(0, 7);
            case 15 -> x.runOut(0, 0);
            case 16 -> x.village(5, 5);
            case 17 -> x.climb(0, 500);
            case 18 -> x.lost(500);
            case 19 -> x.moved(0, true);
            default -> x.pass(1);
        }
    }

    private static void troubleOfEach() {
        for (int which = 0; which <= 20; which++) {
            for (int before = 1; before <= 5; before++) {
                LakeBreath x = Edges.some();
                trouble(x, before);
                if (which == 8) {
                    Due.feed(x, "shut if 1=2");
                }
                tells(x, which);
                Due.be("P38: 0, it wasn't refused, call " + which + " behind " + before, x.trouble(), 0);
                Due.be("P19: so there is no place", x.where(), -1);
            }
        }
    }

    /** A call that is refused by a number. */
    private static void trouble(LakeBreath x, int number) {
        switch (number) {
            case 1 -> x.climb(7, 600);
            case 2 -> x.wind(100);
            case 4 -> x.rule(0);
            case 5 -> x.start(1);
            default -> {
                for (int i = 0; i < 4; i++) {
                    x.pipe(1, 0, 1, 0);
                }
            }
        }
        Due.be("P38: " + number, x.trouble(), number);
    }

    private static void troubleStays() {
        for (int before = 1; before <= 5; before++) {
            LakeBreath x = Edges.some();
            trouble(x, before);
            for (int good = 0; good < 2; good++) {
                int n = good == 1 ? 0 : 500;
                x.of(n, n, n);
                x.full(n, good == 1);
                x.led(n, n);
                x.burst(n);
                x.pipeOf(n, n);
                x.feed(n, n, n, n, n);
                x.fault();
                x.says(n, n);
                x.may(n);
                x.known(n, n, n);
                x.right(n, n, n);
                x.arrives(n);
                x.count(n);
                x.trouble();
                Due.be("P38: calls that tell none, behind " + before, x.trouble(), before);
                Due.be("P19: the latest call that may be refused, behind " + before, x.where(), before == 4 ? 0 : -1);
            }
            Due.be("P14: planned", x.planned(0), 9);
            Due.noSuchElement("P14: planned", x, 7);
            Due.be("P38: planned tells none, behind " + before, x.trouble(), before);
        }
    }

    private static void troubleAgain() {
        LakeBreath x = Edges.some();
        x.rule(0);
        for (int i = 0; i < 3; i++) {
            Due.be("P38: asked again", x.trouble(), 4);
            Due.be("P19: asked again", x.where(), 0);
            Due.be("P18: asked again", x.fault(), 1);
        }
        x.plan(0, 1);
        Due.be("P38: -2 is not refused", x.plan(0, 1) + x.trouble(), -2);
        x.wind(-1);
        Due.be("P38: -2 is not refused", x.until(0, 999) + x.trouble(), -2);
        x.wind(-1);
        Due.be("P38: -2 is not refused", x.check(0, 1, 9, 9, 9) + x.trouble(), -2);
        x.wind(-1);
        x.village(0, 1);
        x.runOut(0, 1);
        x.wind(-1);
        Due.be("P38: -2 is not refused", x.climb(2, 5) + x.trouble(), -2);
    }
}
