import java.util.Arrays;
import java.util.function.Supplier;

/** Calls on both sides of their bounds; a refused one changes nothing and tells its trouble. */
final class Edges {
    static final int NO_NUMBER = -2147483648;
    static final int LEAST = -2147483648;
    static final int MOST = 2147483647;
    /** For calls that tell no number of trouble: it stays as it was. */
    static final int NO_TROUBLE = 0;

    /** A call with its numbers; a boolean counts 1 or 0. */
    interface Call {
        long on(LakeBreath x, int[] n);
    }

    private Edges() {
    }

    /** A number of a call: one that is good, the least and the most that are taken, the trouble of others. */
    static int[] number(int good, int least, int most, int trouble) {
        return new int[] {good, least, most, trouble};
    }

    /** Every number of a call at its bounds, just beyond them, and as small and as large as an int is. */
    static void bounds(String what, Supplier<LakeBreath> made, Call call, long refusal, int[]... numbers) {
        for (int i = 0; i < numbers.length; i++) {
            boolean tells = numbers[i][3] != NO_TROUBLE;
            taken(what, made, call, refusal, tells, with(numbers, i, numbers[i][1]));
            taken(what, made, call, refusal, tells, with(numbers, i, numbers[i][2]));
            for (int bad : beyond(numbers[i])) {
                refused(what, made, call, refusal, numbers[i][3], with(numbers, i, bad));
            }
            for (int k = i + 1; k < numbers.length; k++) {
                int[] both = with(numbers, i, numbers[i][2] + 1);
                both[k] = numbers[k][1] - 1;
                refused(what, made, call, refusal, Math.min(numbers[i][3], numbers[k][3]), both);
            }
        }
    }

    private static int[] with(int[][] numbers, int at, int v) {
        int[] n = new int[numbers.length];
        for (int i = 0; i < n.length; i++) {
            n[i] = i == at ? v : numbers[i][0];
        }
        return n;
    }

    private static int[] beyond(int[] number) {
        return new int[] {number[1] - 1, number[2] + 1, LEAST, MOST};
    }

    private static void taken(String what, Supplier<LakeBreath> made, Call call, long refusal, boolean tells, int[] n) {
        LakeBreath x = made.get();
        x.pass(0);
        String told = what + Arrays.toString(n);
        Due.be(told + " is taken", call.on(x, n) != refusal, true);
        Due.be(told + ", trouble()", x.trouble(), tells ? 0 : 2);
    }

    /** A call that is refused: its answer, its trouble, and an object that is as if it had not been made. */
    static void refused(String what, Supplier<LakeBreath> made, Call call, long refusal, int trouble, int... n) {
        LakeBreath x = made.get();
        int before = trouble == 2 ? 1 : 2;
        if (before == 1) {
            x.repeal(-1);
        } else {
            x.pass(0);
        }
        String told = what + Arrays.toString(n);
        Due.be(told + " is refused", call.on(x, n), refusal);
        Due.be(told + ", trouble()", x.trouble(), trouble == NO_TROUBLE ? before : trouble);
        Due.be(told + ", where()", x.where() != LakeBreath.NONE, trouble == 4);
        unchanged(told, x, made.get());
    }

    static void unchanged(String told, LakeBreath x, LakeBreath other) {
        long[] is = State.of(x);
        long[] was = State.of(other);
        int at = Arrays.mismatch(is, was);
        Due.be(told + " changes nothing (differs at)", at, -1);
    }

    /** An object with some of everything and room for more; THE CREW is nowhere, PIPE 1 RUNS. */
    static LakeBreath some() {
        LakeBreath x = new LakeBreath();
        x.layer(0, 9, 5000, 30, 150);
        x.layer(0, 8, 1000, 20, 100);
        x.layer(1, 9, 3000, 10, 120);
        x.set(0, 2, 50);
        x.set(1, 2, 70);
        x.set(1, 1, 10);
        x.pipe(0, 9, 100, 50);
        x.pipe(0, 7, 50, 0);
        x.pipe(1, 4, 30, 0);
        x.reading(0, 9, 4900);
        x.sounding(0, 9, 5000);
        x.start(1);
        x.pass(2);
        x.reading(0, 9, 4800);
        x.reading(0, 0, 10);
        x.reading(1, 9, 2900);
        x.plan(0, 60);
        Due.rule(x, "siren if full > 10 and wind = 5");
        Due.rule(x, "live if height < 900");
        x.height(21, 15);
        x.height(2, 20);
        x.height(378, 7);
        x.village(21, 30);
        x.village(3, 7);
        x.moved(1, true);
        x.land(2, 1);
        x.runOut(0, 1000);
        x.wind(5);
        Due.feed(x, "shut if 1=2");
        x.layer(0, 3, 40, 0, 0);
        return x;
    }

    /** An object with a READING of every LAYER on each of three DAYS. */
    static LakeBreath everyReading() {
        LakeBreath x = new LakeBreath();
        for (int day = 0; day < 3; day++) {
            for (int i = 0; i < 20; i++) {
                x.reading(i / 10, i % 10, 100 * day + i);
            }
            if (day < 2) {
                x.pass(1);
            }
        }
        return x;
    }

    static LakeBreath noneMoved() {
        LakeBreath x = some();
        x.moved(1, false);
        return x;
    }

    static LakeBreath allMoved() {
        LakeBreath x = some();
        x.moved(0, true);
        return x;
    }
}
