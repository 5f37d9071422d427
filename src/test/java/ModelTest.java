import java.util.ArrayList;
import java.util.List;
import java.util.NoSuchElementException;
import java.util.Random;

/** Random runs of calls, by fixed seeds, on LakeBreath and on the Model: every answer must be the same. */
public final class ModelTest {
    private static final String[] NAMES = {"layer", "layer", "layer", "set", "set", "of", "full", "led", "burst",
        "until", "pipe", "pipe", "pipeOf", "move", "start", "start", "plan", "planned", "check", "feed", "rule",
        "text", "text", "fault", "where", "repeal", "wind", "says", "says", "may", "reading", "reading", "reading",
        "sounding", "sounding", "known", "right", "height", "height", "land", "runOut", "arrives", "village",
        "climb", "climb", "lost", "moved", "pass", "pass", "count", "trouble"};

    private static int[] weights;
    private static Random random;
    private static int today;

    public static void main(String[] args) {
        int runs = args.length > 0 ? Integer.parseInt(args[0]) : 300;
        long first = args.length > 1 ? Long.parseLong(args[1]) : 0;
        for (long seed = first; seed < first + runs; seed++) {
            if (!run(seed)) {
                System.exit(1);
            }
        }
        System.out.println(runs + " random runs, all answers as the model's");
    }

    private static boolean run(long seed) {
        random = new Random(seed);
        weights = new int[NAMES.length];
        for (int i = 0; i < weights.length; i++) {
            weights[i] = random.nextInt(4) == 0 ? 0 : 1 + random.nextInt(6);
        }
        LakeBreath x = new LakeBreath();
        Model m = new Model();
        List<String> log = new ArrayList<>();
        int calls = 0;
        while (calls < 512) {
            String name = pick();
            if (name.equals("text")) {
                for (int[] four : text()) {
                    if (calls++ < 512 && !same(x, m, four.length == 5 ? "feed" : "rule", four, log, seed)) {
                        return false;
                    }
                }
                if (!same(x, m, "fault", new int[0], log, seed) || !same(x, m, "where", new int[0], log, seed)) {
                    return false;
                }
                calls += 2;
                continue;
            }
            calls++;
            if (!same(x, m, name, numbers(name), log, seed)) {
                return false;
            }
            if (random.nextInt(3) == 0 && !same(x, m, "trouble", new int[0], log, seed)) {
                return false;
            }
            today = x.count(6);
        }
        return true;
    }

    private static String pick() {
        int sum = 0;
        for (int w : weights) {
            sum += w;
        }
        int at = random.nextInt(sum);
        int i = 0;
        while (at >= weights[i]) {
            at -= weights[i];
            i++;
        }
        return NAMES[i];
    }

    private static boolean same(LakeBreath x, Model m, String name, int[] a, List<String> log, long seed) {
        long want;
        long got;
        try {
            want = m.call(name, a);
        } catch (NoSuchElementException e) {
            want = Long.MIN_VALUE;
        }
        try {
            got = call(x, name, a);
        } catch (NoSuchElementException e) {
            got = Long.MIN_VALUE;
        }
        log.add(name + java.util.Arrays.toString(a) + " = " + got);
        if (want == got) {
            return true;
        }
        System.out.println("seed " + seed + ":");
        for (String line : log) {
            System.out.println("  " + line);
        }
        System.out.println("the model answers " + want);
        return false;
    }

    /** A number that is mostly one of a call's, sometimes at its edges or beyond. */
    private static int n(int low, int high) {
        switch (random.nextInt(40)) {
            case 0:
                return low - 1;
            case 1:
                return high + 1;
            case 2:
                return random.nextInt();
            case 3:
            case 4:
                return low;
            case 5:
            case 6:
                return high;
            default:
                return low + (int) (random.nextDouble() * (high - low + 1.0));
        }
    }

    private static int lake() {
        return random.nextInt(50) == 0 ? n(0, 1) : random.nextInt(3) == 0 ? 1 : 0;
    }

    /** Cells near the first corner, so that runs meet one another. */
    private static int cell() {
        return random.nextInt(3) == 0 ? n(0, 399) : random.nextInt(6) * 20 + random.nextInt(6);
    }

    private static int gas() {
        return random.nextInt(3) > 0 ? random.nextInt(6000) : n(0, 100000);
    }

    private static int small(int high) {
        return random.nextInt(30) == 0 ? n(0, high) : random.nextInt(high + 1);
    }

    private static int[] numbers(String name) {
        switch (name) {
            case "layer":
                return new int[] {lake(), small(9), gas(), n(0, 400), random.nextBoolean() ? 0 : n(0, 1000)};
            case "set":
                return set();
            case "of":
                return new int[] {lake(), small(9), small(6)};
            case "full":
                return new int[] {lake(), random.nextInt(2)};
            case "led":
                return new int[] {lake(), small(5)};
            case "burst":
                return new int[] {lake()};
            case "until":
                return new int[] {lake(), random.nextBoolean() ? n(1, 999) : 1 + random.nextInt(120)};
            case "pipe":
                return new int[] {lake(), small(9), n(1, 500), random.nextBoolean() ? random.nextInt(4000) : n(0, 100000)};
            case "pipeOf":
                return new int[] {small(5), small(4)};
            case "move":
                return new int[] {small(5), small(9)};
            case "start":
                return new int[] {small(5)};
            case "plan":
                return new int[] {lake(), random.nextBoolean() ? n(1, 200) : 1 + random.nextInt(100)};
            case "planned":
                return new int[] {small(2)};
            case "check":
                return new int[] {lake(), n(1, 200), small(9), small(9), small(9)};
            case "feed":
                return new int[] {random.nextInt(), random.nextInt(), random.nextInt(), random.nextInt(), random.nextInt()};
            case "rule":
                return new int[] {n(0, 40)};
            case "repeal":
                return new int[] {small(15)};
            case "wind":
                return new int[] {n(0, 99)};
            case "says":
                return new int[] {lake(), small(2)};
            case "may":
            case "arrives":
                return new int[] {cell()};
            default:
                return moreNumbers(name);
        }
    }

    private static int[] moreNumbers(String name) {
        switch (name) {
            case "reading":
            case "sounding":
                return new int[] {lake(), random.nextBoolean() ? 9 : small(9), gas()};
            case "known":
            case "right":
                return new int[] {lake(), random.nextBoolean() ? 9 : small(9), n(Math.max(0, today - 12), today)};
            case "height":
                return new int[] {cell(), random.nextBoolean() ? random.nextInt(60) : n(0, 999)};
            case "land":
                return random.nextInt(3) == 0 ? new int[] {1, n(1, 400)}
                        : random.nextBoolean() ? new int[] {0, n(0, 200)} : new int[] {2, random.nextInt(4) == 0 ? n(1, 50) : 1};
            case "runOut":
                return new int[] {lake(), random.nextBoolean() ? random.nextInt(12000) : n(0, 1000000)};
            case "village":
                return new int[] {cell(), n(1, 9999)};
            case "climb":
                return new int[] {small(19), random.nextBoolean() ? random.nextInt(12) : n(0, 500)};
            case "lost":
                return new int[] {random.nextBoolean() ? random.nextInt(12) : n(0, 500)};
            case "moved":
                return new int[] {small(19), random.nextInt(2)};
            case "pass":
                return new int[] {random.nextInt(3) > 0 ? 1 + random.nextInt(5) : n(1, 60)};
            case "count":
                return new int[] {small(9)};
            default:
                return new int[0];
        }
    }

    private static int[] set() {
        switch (random.nextInt(6)) {
            case 0:
                return new int[] {lake(), 0, n(1, 10000)};
            case 1:
                return new int[] {lake(), 1, n(0, 20000)};
            case 2:
                return new int[] {lake(), 2, random.nextBoolean() ? n(0, 10000) : random.nextInt(300)};
            case 3:
                return new int[] {lake(), 3, n(2, 1000)};
            case 4:
                return new int[] {lake(), 4, cell()};
            default:
                return new int[] {lake(), small(5), n(0, 400)};
        }
    }

    // ---- texts of rules

    /** The calls of feed() and rule() that make a random text a RULE. */
    private static List<int[]> text() {
        StringBuilder made = new StringBuilder(RandomRule.text(random));
        int length = made.length();
        if (random.nextInt(40) == 0) {
            length = Math.max(0, length - random.nextInt(12));
        }
        while (made.length() % 20 != 0) {
            made.append(random.nextInt(9) == 0 ? 'x' : ' ');
        }
        List<int[]> calls = new ArrayList<>();
        for (int i = 0; i < made.length(); i += 20) {
            int[] five = new int[5];
            for (int k = 0; k < 20; k++) {
                five[k / 4] = five[k / 4] << 8 | made.charAt(i + k);
            }
            calls.add(five);
        }
        calls.add(new int[] {length});
        return calls;
    }

    private static long call(LakeBreath x, String name, int[] a) {
        switch (name) {
            case "layer":
                return x.layer(a[0], a[1], a[2], a[3], a[4]) ? 1 : 0;
            case "set":
                return x.set(a[0], a[1], a[2]) ? 1 : 0;
            case "of":
                return x.of(a[0], a[1], a[2]);
            case "full":
                return x.full(a[0], a[1] == 1);
            case "led":
                return x.led(a[0], a[1]);
            case "burst":
                return x.burst(a[0]);
            case "until":
                return x.until(a[0], a[1]);
            case "pipe":
                return x.pipe(a[0], a[1], a[2], a[3]);
            case "pipeOf":
                return x.pipeOf(a[0], a[1]);
            case "move":
                return x.move(a[0], a[1]) ? 1 : 0;
            case "start":
                return x.start(a[0]) ? 1 : 0;
            case "plan":
                return x.plan(a[0], a[1]);
            case "planned":
                return x.planned(a[0]);
            case "check":
                return x.check(a[0], a[1], a[2], a[3], a[4]);
            case "feed":
                return x.feed(a[0], a[1], a[2], a[3], a[4]);
            case "rule":
                return x.rule(a[0]);
            case "fault":
                return x.fault();
            case "where":
                return x.where();
            case "repeal":
                return x.repeal(a[0]) ? 1 : 0;
            case "wind":
                return x.wind(a[0]) ? 1 : 0;
            default:
                return callMore(x, name, a);
        }
    }

    private static long callMore(LakeBreath x, String name, int[] a) {
        switch (name) {
            case "says":
                return x.says(a[0], a[1]);
            case "may":
                return x.may(a[0]);
            case "reading":
                return x.reading(a[0], a[1], a[2]) ? 1 : 0;
            case "sounding":
                return x.sounding(a[0], a[1], a[2]);
            case "known":
                return x.known(a[0], a[1], a[2]);
            case "right":
                return x.right(a[0], a[1], a[2]);
            case "height":
                return x.height(a[0], a[1]) ? 1 : 0;
            case "land":
                return x.land(a[0], a[1]) ? 1 : 0;
            case "runOut":
                return x.runOut(a[0], a[1]);
            case "arrives":
                return x.arrives(a[0]);
            case "village":
                return x.village(a[0], a[1]);
            case "climb":
                return x.climb(a[0], a[1]);
            case "lost":
                return x.lost(a[0]);
            case "moved":
                return x.moved(a[0], a[1] == 1) ? 1 : 0;
            case "pass":
                return x.pass(a[0]);
            case "count":
                return x.count(a[0]);
            case "trouble":
                return x.trouble();
            default:
                throw new IllegalStateException(name);
        }
    }
}
