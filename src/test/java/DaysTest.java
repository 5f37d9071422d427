/** Promises 36 to 38: days, counts and trouble. */
public final class DaysTest {
    public static void main(String[] args) {
        pass();
        count();
        trouble();
        Due.end();
    }

    private static void pass() {
        LakeBreath x = new LakeBreath();
        Due.refused("pass none", x, x.pass(0), 2);
        Due.refused("pass fewer", x, x.pass(-1), 2);
        Due.refused("pass more", x, x.pass(61), 2);
        Due.refused("pass far more", x, x.pass(2147483647), 2);
        for (int i = 0; i < 49; i++) {
            Due.be("pass", x.pass(60), 0);
        }
        Due.be("TODAY", x.count(6), 2940);
        Due.refused("beyond 2,999", x, x.pass(60), 2);
        Due.be("TODAY stays", x.count(6), 2940);
        Due.be("to 2,999", x.pass(59), 0);
        Due.be("trouble", x.trouble(), 0);
        Due.refused("beyond 2,999", x, x.pass(1), 2);
        LakeBreath y = new LakeBreath();
        y.layer(0, 9, 20000, 0, 0);
        y.layer(1, 9, 20000, 0, 0);
        Due.be("of both LAKES", y.pass(1), 2);
        y.set(0, 1, 20000);
        y.set(0, 2, 5);
        Due.be("each DAY", y.pass(10), 10);
        Due.be("BURSTS in all", y.count(7), 12);
        Due.be("the latest CLOUD", y.led(0, 5), 5);
        Due.be("CLOUDS", y.led(0, 3), 20050);
    }

    private static void count() {
        LakeBreath x = new LakeBreath();
        int[] first = {0, 0, 0, 0, 0, 0, 0, 0, -2, 0};
        for (int i = 0; i < 10; i++) {
            Due.be("count at first " + i, x.count(i), first[i]);
        }
        Due.be("count of others", x.count(10), -1);
        Due.be("count of others", x.count(-1), -1);
        x.pipe(1, 0, 1, 0);
        Due.rule(x, "siren if 1 = 1");
        Due.rule(x, "siren if 1 = 1");
        x.layer(0, 9, 20000, 0, 0);
        x.pass(4);
        for (int i = 0; i < 3; i++) {
            x.reading(0, 0, 5);
        }
        for (int i = 0; i < 4; i++) {
            x.sounding(0, 0, 5);
        }
        for (int i = 0; i < 5; i++) {
            x.village(0, 5);
        }
        x.moved(1, true);
        x.moved(3, true);
        x.start(0);
        x.feed(0, 0, 0, 0, 0);
        int[] then = {1, 2, 3, 4, 5, 2, 4, 1, 1, 20};
        for (int i = 0; i < 10; i++) {
            Due.be("count then " + i, x.count(i), then[i]);
        }
    }

    private static void trouble() {
        LakeBreath x = new LakeBreath();
        Due.be("trouble at first", x.trouble(), 0);
        x.pass(0);
        x.of(9, 9, 9);
        x.full(9, true);
        x.led(9, 9);
        x.burst(9);
        x.pipeOf(9, 9);
        x.fault();
        x.where();
        x.says(9, 9);
        x.may(999);
        x.known(9, 9, 9);
        x.right(9, 9, 9);
        x.arrives(999);
        x.count(99);
        x.feed(0, 0, 0, 0, 0);
        Due.noSuchElement("planned", x, 0);
        Due.be("calls that tell no numbers of it", x.trouble(), 2);
        x.until(0, 999);
        Due.be("-2 is not refused", x.trouble(), 0);
        x.repeal(0);
        Due.be("1", x.trouble(), 1);
        x.rule(3);
        Due.be("4", x.trouble(), 4);
        Due.be("trouble asked again", x.trouble(), 4);
        x.rule(3);
        Due.be("2", x.trouble(), 2);
    }
}
