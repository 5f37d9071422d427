/** Terms V and promises 24 to 27, sentence by sentence: READINGS, SOUNDINGS, DRIFT and DEAD at their edges. */
public final class EdgesOfStringsTest {
    private static final int TOLD = 5;
    private static final int DEAD = 6;

    public static void main(String[] args) {
        readings();
        roomForReadings();
        soundings();
        roomForSoundings();
        latestOfBoth();
        line();
        aheadAndBehind();
        clamped();
        dead();
        toldGas();
        known();
        right();
        Due.end();
    }

    private static void days(LakeBreath x, int days) {
        for (int i = 0; i < days / 60; i++) {
            x.pass(60);
        }
        if (days % 60 > 0) {
            x.pass(days % 60);
        }
    }

    private static void readings() {
        LakeBreath x = new LakeBreath();
        for (int lake = 0; lake < 2; lake++) {
            for (int layer = 0; layer < 10; layer++) {
                Due.be("P27: none yet", x.right(lake, layer, 0), Edges.NO_NUMBER);
                Due.granted("P24", x, x.reading(lake, layer, 100 * lake + layer));
                Due.be("P24: of its own string", x.of(lake, layer, TOLD), 100 * lake + layer);
                Due.be("P37: READINGS", x.count(2), 10 * lake + layer + 1);
            }
        }
        x.reading(0, 3, 0);
        Due.be("P24: the least", x.of(0, 3, TOLD), 0);
        x.reading(0, 3, 100000);
        Due.be("P24: the most, more than it HOLDS", x.of(0, 3, TOLD), 100000);
        x.reading(0, 3, 100001);
        x.reading(0, 3, -1);
        Due.be("P24: refused ones aren't told", x.of(0, 3, TOLD), 100000);
        Due.be("P24: GAS is as it was", x.of(0, 3, 0), 0);
        Due.be("P24: others stay", x.of(1, 3, TOLD), 103);
    }

    private static void roomForReadings() {
        LakeBreath x = new LakeBreath();
        for (int i = 1; i <= 299; i++) {
            x.reading(i % 2, i % 10, i);
        }
        x.pass(1);
        Due.granted("P24: the 300th", x, x.reading(0, 0, 300));
        Due.be("P37: READINGS", x.count(2), 300);
        Due.denied("P24: a 301st", x, x.reading(0, 0, 301), 3);
        Due.denied("P24: a 301st of another string", x, x.reading(1, 1, 301), 3);
        Due.denied("P24: 1 ahead of 3", x, x.reading(2, 0, 301), 1);
        Due.denied("P24: 2 ahead of 3", x, x.reading(0, 0, 100001), 2);
        Due.be("P37: READINGS", x.count(2), 300);
        Due.be("P24: none of them is told", x.of(0, 0, TOLD), 300);
        Due.be("P27: nor of TODAY", x.right(1, 1, 1), Edges.NO_NUMBER);
        Due.be("P27: nor of the DAY ahead", x.right(1, 1, 0), 291);
        Due.be("P25: by the 300th", x.sounding(0, 0, 310), 10);
        Due.be("P25: not by a refused one", x.sounding(1, 1, 310), Edges.NO_NUMBER);
        Due.be("P25: trouble", x.trouble(), 5);
    }

    private static void sounding(LakeBreath x, int lake, int layer, int gas, int due, int trouble) {
        Due.be("P25: sounding " + lake + ", " + layer + ", " + gas, x.sounding(lake, layer, gas), due);
        Due.be("P25: its trouble", x.trouble(), trouble);
    }

    private static void soundings() {
        LakeBreath x = new LakeBreath();
        sounding(x, 0, 5, 100, Edges.NO_NUMBER, 5);
        x.reading(0, 5, 100);
        sounding(x, 1, 5, 100, Edges.NO_NUMBER, 5);
        sounding(x, 0, 4, 100, Edges.NO_NUMBER, 5);
        sounding(x, 0, 6, 100, Edges.NO_NUMBER, 5);
        sounding(x, 0, 4, 100001, Edges.NO_NUMBER, 2);
        sounding(x, 0, 10, 100001, Edges.NO_NUMBER, 1);
        Due.be("P37: no SOUNDINGS", x.count(3), 0);
        sounding(x, 0, 5, 0, -100, 0);
        sounding(x, 0, 5, 100, 0, 0);
        sounding(x, 0, 5, 100000, 99900, 0);
        Due.be("P37: SOUNDINGS", x.count(3), 3);
        x.reading(0, 5, 0);
        sounding(x, 0, 5, 100000, 100000, 0);
        x.reading(0, 5, 100000);
        sounding(x, 0, 5, 0, -100000, 0);
        x.pass(1);
        sounding(x, 0, 5, 100, Edges.NO_NUMBER, 5);
        x.reading(0, 5, 7);
        sounding(x, 0, 5, 9, 2, 0);
        Due.be("P25: GAS is as it was", x.of(0, 5, 0), 0);
    }

    private static void roomForSoundings() {
        LakeBreath x = new LakeBreath();
        x.reading(0, 0, 1000);
        x.reading(1, 9, 1000);
        for (int i = 1; i <= 59; i++) {
            x.sounding(i % 2, 9 * (i % 2), 1000 + i);
        }
        sounding(x, 0, 0, 1060, 60, 0);
        Due.be("P37: SOUNDINGS", x.count(3), 60);
        Edges.refused("P25: a 61st", EdgesOfStringsTest::sixty, (y, n) -> y.sounding(0, 0, 5), Edges.NO_NUMBER, 3);
        Edges.refused("P25: 1 ahead of 3", EdgesOfStringsTest::sixty, (y, n) -> y.sounding(0, 10, 5),
                Edges.NO_NUMBER, 1);
        Edges.refused("P25: 2 ahead of 3", EdgesOfStringsTest::sixty, (y, n) -> y.sounding(0, 0, -1),
                Edges.NO_NUMBER, 2);
        Edges.refused("P25: 5 ahead of 3", EdgesOfStringsTest::sixty, (y, n) -> y.sounding(0, 1, 5),
                Edges.NO_NUMBER, 5);
        Edges.refused("P25: 2 ahead of 5", EdgesOfStringsTest::sixty, (y, n) -> y.sounding(0, 1, -1),
                Edges.NO_NUMBER, 2);
        sounding(x, 0, 0, 1061, Edges.NO_NUMBER, 3);
        Due.be("P25: PUT RIGHT by the 60th", x.of(0, 0, TOLD), 1060);
        Due.be("P25: and the 59th", x.of(1, 9, TOLD), 1059);
    }

    private static LakeBreath sixty() {
        LakeBreath x = new LakeBreath();
        x.reading(0, 0, 1000);
        for (int i = 0; i < 60; i++) {
            x.sounding(0, 0, 1000 + i);
        }
        return x;
    }

    /** DRIFT of a DAY: the latest SOUNDING less the latest READING, whichever came first. */
    private static void latestOfBoth() {
        LakeBreath x = new LakeBreath();
        x.reading(0, 1, 100);
        Due.be("P25: the first", x.sounding(0, 1, 130), 30);
        x.reading(0, 1, 110);
        Due.be("P27: a READING behind it", x.right(0, 1, 0), 130);
        Due.be("P26: as known", x.known(0, 1, 0), 130);
        x.reading(0, 2, 500);
        Due.be("P27: another string's", x.right(0, 1, 0) + x.right(0, 2, 0), 630);
        Due.be("P25: by the latest READING", x.sounding(0, 1, 140), 30);
        Due.be("P25: the latest SOUNDING", x.sounding(0, 1, 115), 5);
        Due.be("P27: by the latest SOUNDING", x.right(0, 1, 0), 115);
        x.pass(1);
        x.reading(0, 1, 200);
        Due.be("P27: DRIFT of that DAY goes on", x.right(0, 1, 1), 205);
        x.reading(0, 1, 300);
        Due.be("P27: a READING of another DAY changes it not", x.right(0, 1, 0), 115);
        Due.be("P27: the latest of the DAY", x.right(0, 1, 1), 305);
        Due.be("P25: DRIFT of the other DAY", x.sounding(0, 1, 290), -10);
        x.reading(0, 1, 301);
        Due.be("P27: it is less that READING", x.right(0, 1, 1), 290);
        Due.be("P27: the DAY ahead has its own", x.right(0, 1, 0), 115);
    }

    private static void line() {
        // DAYS of two SOUNDINGS, their DRIFTS, and a DAY on the line.
        int[][] rows = {{0, 0, 3, 1, 1}, {0, 0, 3, 1, 2}, {0, 1, 3, 0, 1}, {0, 1, 3, 0, 2}, {0, 0, 3, -1, 1},
            {0, 0, 3, -1, 2}, {0, -1, 3, 0, 1}, {0, -1, 3, 0, 2}, {0, -7, 7, 7, 3}, {0, 7, 7, -7, 4}, {2, 5, 4, 8, 3},
            {2, -5, 4, -8, 3}, {0, 10, 1, 20, 0}, {0, 10, 1, 20, 1}, {0, -30000, 2000, 40000, 999},
            {0, 40000, 2000, -30000, 1001}, {1, 49999, 2999, -50000, 2998}, {0, -50000, 2999, 50000, 2998},
            {0, -50000, 2999, 50000, 1}, {0, 50000, 2999, -50000, 2998}, {0, 50000, 2999, -50000, 1}};
        for (int[] row : rows) {
            LakeBreath x = new LakeBreath();
            for (int day : new int[] {row[0], row[4], row[2]}) {
                days(x, day - x.count(6));
                x.reading(1, 9, 50000);
                if (day == row[0] || day == row[2]) {
                    x.sounding(1, 9, 50000 + (day == row[0] ? row[1] : row[3]));
                }
            }
            long more = (long) (row[3] - row[1]) * (row[4] - row[0]);
            long drift = row[1] + Math.floorDiv(more, (long) (row[2] - row[0]));
            Due.be("P27: on the line, downwards, " + java.util.Arrays.toString(row), x.right(1, 9, row[4]),
                    50000 + drift);
        }
    }

    private static void aheadAndBehind() {
        LakeBreath x = new LakeBreath();
        for (int day = 0; day <= 10; day++) {
            x.reading(0, 9, 1000);
            Due.be("P27: 0 without any", day > 4 || x.right(0, 9, day) == 1000, true);
            if (day == 4) {
                x.sounding(0, 9, 1010);
            }
            if (day == 7) {
                x.sounding(0, 9, 1040);
                x.sounding(0, 9, 1020);
            }
            if (day < 10) {
                x.pass(1);
            }
        }
        int[] due = {1010, 1010, 1010, 1010, 1010, 1013, 1016, 1020, 1020, 1020, 1020};
        for (int day = 0; day <= 10; day++) {
            Due.be("P27: DAY " + day + " of 4 and 7", x.right(0, 9, day), due[day]);
        }
        LakeBreath y = new LakeBreath();
        y.reading(0, 9, 1000);
        y.pass(1);
        y.reading(0, 9, 1000);
        y.sounding(0, 9, 900);
        y.pass(1);
        y.reading(0, 9, 1000);
        for (int day = 0; day < 3; day++) {
            Due.be("P27: one alone, ahead of it, on it, behind it", y.right(0, 9, day), 900);
        }
        Due.be("P27: other strings have none", y.right(0, 8, 1), Edges.NO_NUMBER);
    }

    private static void clamped() {
        int[][] rows = {{100, 99, 0, 0, 0}, {100, 99, 1, 0, 0}, {100, 99, 2, 1, 1}, {100, 0, 100, 0, 0},
            {100, 0, 99, 0, 0}, {100, 0, 101, 1, 1}, {0, 1, 99999, 100000, 100000}, {0, 1, 100000, 100000, 100000},
            {0, 1, 99998, 99999, 99999}, {0, 100000, 100000, 100000, 100000}, {100000, 0, 0, 0, 0}};
        for (int[] row : rows) {
            LakeBreath x = new LakeBreath();
            x.reading(0, 9, row[0]);
            x.sounding(0, 9, row[1]);
            x.pass(1);
            x.reading(0, 9, row[2]);
            String what = java.util.Arrays.toString(row);
            Due.be("P27: 0 .. 100,000, " + what, x.right(0, 9, 1), row[3]);
            Due.be("P4: TOLD GAS, " + what, x.of(0, 9, TOLD), row[4]);
            Due.be("P26: as known, " + what, x.known(0, 9, 1), row[4]);
        }
    }

    private static void dead() {
        for (int first = 0; first < 9; first += 4) {
            LakeBreath x = new LakeBreath();
            days(x, first);
            Due.be("P4: DEAD without a READING", x.of(1, 4, DEAD), 1);
            x.reading(1, 4, 77);
            for (int day = 0; day < 10; day++) {
                Due.be("P4: DEAD behind " + day + " DAYS", x.of(1, 4, DEAD), day < 7 ? 0 : 1);
                Due.be("P4: TOLD GAS behind " + day + " DAYS", x.of(1, 4, TOLD), day < 7 ? 77 : 5000);
                Due.be("P26: behind " + day + " DAYS", x.known(1, 4, first + day), day < 7 ? 77 : 5000);
                x.pass(1);
            }
            Due.be("P27: a DEAD one's READING", x.right(1, 4, first), 77);
            for (int day = 0; day <= first + 10; day++) {
                boolean alive = day >= first && day < first + 7;
                Due.be("P26: DEAD by DAY " + day, x.known(1, 4, day), alive ? 77 : 5000);
            }
            x.reading(1, 4, 78);
            Due.be("P4: alive again", x.of(1, 4, DEAD), 0);
            Due.be("P4: another string is DEAD", x.of(1, 5, DEAD) + x.of(0, 4, DEAD), 2);
        }
    }

    private static void toldGas() {
        LakeBreath x = new LakeBreath();
        x.layer(0, 2, 50, 0, 0);
        Due.be("P4: DEAD, what it HOLDS", x.of(0, 2, TOLD), 3000);
        x.set(0, 1, 2999);
        Due.be("P4: DEAD, what it HOLDS now", x.of(0, 2, TOLD), 1);
        x.set(0, 1, 3000);
        Due.be("P4: DEAD, it HOLDS none", x.of(0, 2, TOLD), 0);
        x.reading(0, 2, 60);
        Due.be("P4: not DEAD, by the READING", x.of(0, 2, TOLD), 60);
        x.pass(6);
        Due.be("P4: the last DAY of it", x.of(0, 2, TOLD), 60);
        x.reading(0, 2, 70);
        x.sounding(0, 2, 90);
        Due.be("P4: PUT RIGHT", x.of(0, 2, TOLD), 90);
        x.pass(6);
        Due.be("P4: PUT RIGHT behind the last DRIFT", x.of(0, 2, TOLD), 90);
        x.pass(1);
        Due.be("P4: DEAD", x.of(0, 2, TOLD), 0);
    }

    private static void known() {
        LakeBreath x = new LakeBreath();
        Due.be("P26: on DAY 0", x.known(0, 9, 0), 10000);
        Due.be("P26: beyond TODAY", x.known(0, 9, 1), Edges.NO_NUMBER);
        x.reading(0, 9, 100);
        x.sounding(0, 9, 110);
        x.pass(3);
        x.reading(0, 9, 100);
        x.sounding(0, 9, 140);
        x.reading(0, 9, 200);
        x.sounding(0, 9, 250);
        x.pass(1);
        x.reading(0, 9, 300);
        Due.be("P26: SOUNDINGS of DAYS up to it", x.known(0, 9, 0), 110);
        Due.be("P26: READINGS of DAYS up to it", x.known(0, 9, 1), 110);
        Due.be("P26: the DAY ahead", x.known(0, 9, 2), 110);
        Due.be("P26: the DAY itself, the latest of both", x.known(0, 9, 3), 250);
        Due.be("P26: TODAY", x.known(0, 9, 4), 350);
        Due.be("P26: as TOLD GAS", x.known(0, 9, 4), x.of(0, 9, TOLD));
        Due.be("P26: beyond TODAY", x.known(0, 9, 5), Edges.NO_NUMBER);
        Due.be("P26: ahead of DAY 0", x.known(0, 9, -1), Edges.NO_NUMBER);
        days(x, 2995);
        Due.be("P26: on the last of the DAYS", x.known(0, 9, 2999), 10000);
        Due.be("P26: beyond it", x.known(0, 9, 3000), Edges.NO_NUMBER);
        Due.be("P26: long ago", x.known(0, 9, 10), 350);
        Due.be("P26: DEAD by then", x.known(0, 9, 11), 10000);
        x.set(0, 0, 10);
        Due.be("P26: HOLDS as it is now", x.known(0, 9, 11), 100);
    }

    private static void right() {
        LakeBreath x = new LakeBreath();
        for (int day : new int[] {-1, 0, 1, Edges.LEAST, Edges.MOST}) {
            Due.be("P27: none of DAY " + day, x.right(0, 0, day), Edges.NO_NUMBER);
        }
        x.pass(5);
        x.reading(0, 0, 400);
        for (int day : new int[] {-1, 0, 4, 6, Edges.LEAST, Edges.MOST}) {
            Due.be("P27: none of DAY " + day, x.right(0, 0, day), Edges.NO_NUMBER);
        }
        Due.be("P27: of that DAY", x.right(0, 0, 5), 400);
        x.pass(20);
        Due.be("P27: though DEAD", x.right(0, 0, 5), 400);
        x.reading(0, 0, 500);
        x.sounding(0, 0, 450);
        Due.be("P27: by SOUNDINGS up to TODAY", x.right(0, 0, 5), 350);
        Due.be("P26: which weren't known", x.known(0, 0, 5), 400);
        x.pass(0);
        x.right(5, 5, 5);
        x.known(5, 5, 5);
        Due.be("P38: right and known tell no trouble", x.trouble(), 2);
    }
}
