import java.util.NoSuchElementException;
import java.util.Random;

/** Runs of 512 calls with numbers of every kind: none may throw but planned(), and that its own exception. */
public final class WildTest {
    private static final int[] EDGES = {-2147483648, -2147483647, -65536, -100, -3, -2, -1, 0, 1, 2, 3, 5, 6, 9, 10, 16,
        19, 20, 60, 61, 99, 100, 200, 255, 299, 300, 399, 400, 500, 999, 1000, 2999, 3000, 9999, 10000, 20000, 100000,
        1000000, 1000001, 2147483646, 2147483647};

    private static Random random;

    public static void main(String[] args) {
        for (long seed = 0; seed < 400; seed++) {
            random = new Random(seed);
            LakeBreath x = new LakeBreath();
            for (int i = 0; i < 512; i++) {
                try {
                    call(x, random.nextInt(40));
                } catch (RuntimeException e) {
                    Due.be("seed " + seed + ", call " + i + " threw " + e, 1, 0);
                }
            }
        }
        Due.be("all went through", 1, 1);
        Due.end();
    }

    private static int n() {
        switch (random.nextInt(4)) {
            case 0:
                return EDGES[random.nextInt(EDGES.length)];
            case 1:
                return random.nextInt(400);
            default:
                return random.nextInt(10);
        }
    }

    private static void call(LakeBreath x, int which) {
        switch (which) {
            case 0:
                x.layer(n(), n(), random.nextInt(100001), n(), n());
                break;
            case 1:
                x.set(n() & 1, n(), n());
                break;
            case 2:
                x.of(n(), n(), n());
                break;
            case 3:
                x.full(n(), random.nextBoolean());
                break;
            case 4:
                x.led(n(), n());
                break;
            case 5:
                x.burst(n());
                break;
            case 6:
                x.until(n(), n());
                break;
            case 7:
                x.pipe(n(), n(), n(), n());
                break;
            case 8:
                x.pipeOf(n(), n());
                break;
            case 9:
                x.move(n(), n());
                break;
            case 10:
                x.start(n());
                break;
            case 11:
                x.plan(n(), random.nextInt(9) == 0 ? n() : 0);
                break;
            case 12:
                planned(x);
                break;
            case 13:
                x.check(n(), n(), n(), n(), n());
                break;
            case 14:
                x.feed(random.nextInt(), random.nextInt(), random.nextInt(), random.nextInt(), random.nextInt());
                break;
            case 15:
                text(x);
                break;
            case 16:
                x.rule(n());
                break;
            case 17:
                x.fault();
                break;
            case 18:
                x.where();
                break;
            case 19:
                x.repeal(n());
                break;
            default:
                callMore(x, which);
                break;
        }
    }

    private static void planned(LakeBreath x) {
        try {
            x.planned(n());
        } catch (NoSuchElementException e) {
            Due.be("of its own class", e.getClass() == NoSuchElementException.class, true);
        }
    }

    private static void text(LakeBreath x) {
        String text = RandomRule.text(random);
        Due.feed(x, text);
        x.rule(text.length());
    }

    private static void callMore(LakeBreath x, int which) {
        switch (which) {
            case 20:
                x.wind(n());
                break;
            case 21:
                x.says(n(), n());
                break;
            case 22:
                x.may(n());
                break;
            case 23:
                x.reading(n(), n(), n());
                break;
            case 24:
                x.sounding(n(), n(), n());
                break;
            case 25:
                x.known(n(), n(), n());
                break;
            case 26:
                x.right(n(), n(), n());
                break;
            case 27:
                x.height(n(), n());
                break;
            case 28:
                x.land(n(), n());
                break;
            case 29:
                x.runOut(n(), n());
                break;
            case 30:
                x.arrives(n());
                break;
            case 31:
                x.village(n(), n());
                break;
            case 32:
                x.climb(n(), n());
                break;
            case 33:
                x.lost(n());
                break;
            case 34:
                x.moved(n(), random.nextBoolean());
                break;
            case 35:
                x.pass(n());
                break;
            case 36:
                x.count(n());
                break;
            default:
                x.trouble();
                break;
        }
    }
}
