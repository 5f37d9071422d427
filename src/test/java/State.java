import java.util.NoSuchElementException;

/** All that an object answers, but trouble() and where(), which a refused call may change. */
final class State {
    private static final int[] CELLS = {0, 1, 2, 3, 19, 20, 21, 22, 40, 41, 42, 60, 379, 380, 397, 398, 399};

    private State() {
    }

    /** Some 400 calls; an object is used up by it. */
    static long[] of(LakeBreath x) {
        Row row = new Row();
        ahead(x, row);
        x.pass(3);
        water(x, row);
        x.runOut(0, 4000);
        land(x, row);
        x.runOut(1, 1500);
        land(x, row);
        return row.values();
    }

    private static void ahead(LakeBreath x, Row row) {
        for (int what = 0; what < 10; what++) {
            row.add(x.count(what));
        }
        row.add(x.fault());
        for (int i = 0; i < 3; i++) {
            row.add(planned(x, i));
        }
        land(x, row);
        for (int village = 0; village < 3; village++) {
            row.add(x.climb(village, 1));
        }
        row.add(x.lost(2));
        water(x, row);
        strings(x, row);
        for (int cell : CELLS) {
            row.add(x.may(cell));
        }
    }

    private static void water(LakeBreath x, Row row) {
        for (int lake = 0; lake < 2; lake++) {
            for (int what = 0; what < 6; what++) {
                row.add(x.led(lake, what));
            }
            for (int layer = 0; layer < 10; layer++) {
                row.add(x.of(lake, layer, 0));
                row.add(x.of(lake, layer, 3));
            }
            for (int what = 0; what < 3; what++) {
                row.add(x.says(lake, what));
            }
            row.add(x.full(lake, false));
            row.add(x.full(lake, true));
            row.add(x.burst(lake));
            row.add(x.of(lake, 9, 4));
        }
        for (int pipe = 0; pipe < 4; pipe++) {
            for (int what = 1; what < 5; what++) {
                row.add(x.pipeOf(pipe, what));
            }
        }
    }

    private static void strings(LakeBreath x, Row row) {
        int today = x.count(6);
        for (int lake = 0; lake < 2; lake++) {
            for (int layer = 0; layer < 10; layer += 9) {
                row.add(x.right(lake, layer, 0));
                row.add(x.right(lake, layer, today));
                row.add(x.known(lake, layer, 0));
                row.add(x.known(lake, layer, today));
            }
        }
    }

    private static void land(LakeBreath x, Row row) {
        for (int cell : CELLS) {
            row.add(x.arrives(cell));
        }
    }

    private static long planned(LakeBreath x, int i) {
        try {
            return x.planned(i);
        } catch (NoSuchElementException e) {
            return -1;
        }
    }

    private static final class Row {
        private final long[] values = new long[400];
        private int length;

        void add(long value) {
            values[length] = value;
            length++;
        }

        long[] values() {
            return java.util.Arrays.copyOf(values, length);
        }
    }
}
