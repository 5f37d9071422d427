/** Terms III and promises 9 to 15, sentence by sentence: PIPES, THE CREW, PLAN and CHECKED at their edges. */
public final class EdgesOfPipesTest {
    public static void main(String[] args) {
        room();
        pipeOf();
        moveRefused();
        moveMixes();
        start();
        crew();
        work();
        belowShare();
        sixtyDays();
        burstInThese();
        stays();
        fewestDays();
        fewestMoved();
        lesserLayer();
        planned();
        checkLayers();
        checkDays();
        Due.end();
    }

    private static LakeBreath steady(int step, int mix) {
        LakeBreath x = new LakeBreath();
        for (int lake = 0; lake < 2; lake++) {
            for (int i = 0; i < 10; i++) {
                x.layer(lake, i, 0, 0, 100 * i);
            }
            x.set(lake, 0, step);
            x.set(lake, 3, mix);
        }
        return x;
    }

    private static void gas(LakeBreath x, int layer, int gas) {
        x.layer(0, layer, gas, 0, 100 * layer);
    }

    private static LakeBreath pipesOf(int first, int second) {
        LakeBreath x = Edges.some();
        for (int i = 2; i < first; i++) {
            x.pipe(0, i, 20, 5);
        }
        for (int i = 1; i < second; i++) {
            x.pipe(1, i, 20, 5);
        }
        return x;
    }

    private static void room() {
        Due.be("P9: the third of LAKE 0", pipesOf(2, 1).pipe(0, 0, 1, 0), 3);
        Due.be("P9: the third of LAKE 1", pipesOf(2, 2).pipe(1, 0, 1, 0), 4);
        Due.be("P9: the sixth", pipesOf(3, 2).pipe(1, 0, 1, 0), 5);
        Edges.refused("P9: a fourth of LAKE 0", () -> pipesOf(3, 1), (x, n) -> x.pipe(0, 0, 1, 0), -1, 3);
        Edges.refused("P9: a fourth of LAKE 1", () -> pipesOf(2, 3), (x, n) -> x.pipe(1, 0, 1, 0), -1, 3);
        Edges.refused("P9: a seventh", () -> pipesOf(3, 3), (x, n) -> x.pipe(n[0], 0, 1, 0), -1, 3, 0);
        Edges.refused("P9: a seventh", () -> pipesOf(3, 3), (x, n) -> x.pipe(n[0], 0, 1, 0), -1, 3, 1);
        Edges.refused("P9: 1 ahead of 3", () -> pipesOf(3, 3), (x, n) -> x.pipe(0, 10, 1, 0), -1, 1);
        Edges.refused("P9: 2 ahead of 3", () -> pipesOf(3, 3), (x, n) -> x.pipe(0, 9, 501, 0), -1, 2);
        LakeBreath x = pipesOf(3, 3);
        Due.be("P37: PIPES", x.count(0), 6);
        Due.be("P10: the sixth PIPE is of", x.pipeOf(5, 0), 1);
        Due.be("P10: no seventh", x.pipeOf(6, 0), -1);
    }

    private static void pipeOf() {
        LakeBreath x = new LakeBreath();
        Due.be("P10: none yet", x.pipeOf(0, 0), -1);
        x.pipe(1, 9, 500, 100000);
        int[] due = {1, 9, 0, 0, 0};
        for (int what = 0; what < 5; what++) {
            Due.be("P10: at first, " + what, x.pipeOf(0, what), due[what]);
        }
        x.pass(1);
        Due.be("P10: it doesn't RUN at first", x.pipeOf(0, 2), 0);
        x.start(0);
        Due.be("P10: STARTED", x.pipeOf(0, 2), 1);
        x.move(0, 8);
        Due.be("P10: MOVED it doesn't RUN", x.pipeOf(0, 2), 0);
        Due.be("P10: MOVED once", x.pipeOf(0, 4), 1);
        x.move(0, 8);
        x.move(0, 10);
        x.move(1, 7);
        Due.be("P10: refused it is not MOVED", x.pipeOf(0, 4), 1);
        x.move(0, 9);
        Due.be("P10: MOVED back", x.pipeOf(0, 4), 2);
        LakeBreath y = steady(10000, 1000);
        y.pipe(0, 9, 500, 0);
        gas(y, 9, 100000);
        y.start(0);
        y.pass(1);
        y.move(0, 0);
        y.pass(1);
        Due.be("P10: what it let off in all stays", y.pipeOf(0, 3), 50000);
        y.move(0, 9);
        y.start(0);
        gas(y, 9, 1000);
        gas(y, 8, 1000);
        y.pass(1);
        Due.be("P10: what it let off in all, elsewhere too", y.pipeOf(0, 3), 50500);
    }

    private static LakeBreath ruled(String text) {
        LakeBreath x = Edges.some();
        x.rule(0);
        Due.rule(x, text);
        return x;
    }

    private static LakeBreath crewAt(int pipe) {
        LakeBreath x = Edges.some();
        x.start(pipe);
        return x;
    }

    private static void moveRefused() {
        int[] layers = {9, 7, 4};
        for (int i = 0; i < 3; i++) {
            Edges.refused("P11: it is there", Edges::some, (x, n) -> x.move(n[0], n[1]) ? 1 : 0, 0, 5, i, layers[i]);
            Edges.refused("P11: RULES don't let it", () -> ruled("work if 1=2"),
                    (x, n) -> x.move(n[0], n[1]) ? 1 : 0, 0, 6, i, 5);
            Edges.refused("P11: it is SHUT", () -> ruled("shut if 1=1"), (x, n) -> x.move(n[0], n[1]) ? 1 : 0, 0, 6,
                    i, 5);
            Edges.refused("P11: 5 ahead of 6", () -> ruled("work if 1=2"), (x, n) -> x.move(n[0], n[1]) ? 1 : 0, 0, 5,
                    i, layers[i]);
        }
        Edges.refused("P11: 1 ahead of 6", () -> ruled("work if 1=2"), (x, n) -> x.move(0, n[0]) ? 1 : 0, 0, 1, 10);
        Edges.refused("P11: THE CREW is at LAKE 0", () -> crewAt(0), (x, n) -> x.move(2, n[0]) ? 1 : 0, 0, 6, 5);
        Edges.refused("P11: THE CREW is at LAKE 1", () -> crewAt(2), (x, n) -> x.move(0, n[0]) ? 1 : 0, 0, 6, 5);
        Edges.refused("P11: 5 ahead of 6", () -> crewAt(0), (x, n) -> x.move(2, n[0]) ? 1 : 0, 0, 5, 4);
    }

    /** Each odd with the next together, and apart by more than one. */
    private static int odd(int i) {
        return 3 * i * i + 2 * i;
    }

    private static void moveMixes() {
        for (int to = 0; to < 10; to++) {
            LakeBreath x = new LakeBreath();
            for (int i = 0; i < 10; i++) {
                x.layer(0, i, 1000 + odd(i), odd(i), 100 + odd(i));
                x.layer(1, i, 7 * i, 0, 0);
            }
            x.pipe(0, to == 5 ? 4 : 5, 1, 0);
            Due.granted("P11: move to " + to, x, x.move(0, to));
            int lower = to == 0 ? 1 : to;
            for (int i = 0; i < 10; i++) {
                int has = odd(i);
                if (i == lower || i == lower - 1) {
                    int both = odd(lower) + odd(lower - 1);
                    has = i == lower ? both - both / 2 : both / 2;
                }
                Due.be("P11: GAS of " + i + ", moved to " + to, x.of(0, i, 0), 1000 + has);
                Due.be("P11: WARMTH of " + i + ", moved to " + to, x.of(0, i, 1), has);
                Due.be("P11: SALT of " + i + ", moved to " + to, x.of(0, i, 2), 100 + has);
                Due.be("P11: the other LAKE", x.of(1, i, 0), 7 * i);
            }
            Due.be("P11: it tells no GAS", x.led(0, 0), x.led(0, 4));
        }
        // Heavy below and light above are mixed too, and once: what is then lighter below stays so.
        LakeBreath x = new LakeBreath();
        x.pipe(0, 3, 1, 0);
        x.layer(0, 5, 0, 1, 0);
        x.layer(0, 4, 0, 0, 1000);
        x.layer(0, 3, 0, 0, 2000 / 2);
        x.move(0, 5);
        Due.be("P11: mixed once", x.of(0, 4, 2), 500);
        Due.be("P11: the next pair isn't", x.of(0, 3, 2), 1000);
    }

    private static void start() {
        Edges.refused("P12: RUNS already", Edges::some, (x, n) -> x.start(1) ? 1 : 0, 0, 5);
        Edges.refused("P12: 5 ahead of 6", () -> ruled("work if 1=2"), (x, n) -> x.start(1) ? 1 : 0, 0, 5);
        Edges.refused("P12: RULES don't let it", () -> ruled("work if 1=2"), (x, n) -> x.start(0) ? 1 : 0, 0, 6);
        Edges.refused("P12: it is SHUT", () -> ruled("shut if lake=0"), (x, n) -> x.start(0) ? 1 : 0, 0, 6);
        Due.granted("P12: the other isn't", Edges.some(), ruled("shut if lake=0").start(2));
        Edges.refused("P12: 1 ahead of 6", () -> ruled("work if 1=2"), (x, n) -> x.start(3) ? 1 : 0, 0, 1);
        Edges.refused("P12: THE CREW is at LAKE 0", () -> crewAt(0), (x, n) -> x.start(2) ? 1 : 0, 0, 6);
        Edges.refused("P12: THE CREW is at LAKE 1", () -> crewAt(2), (x, n) -> x.start(0) ? 1 : 0, 0, 6);
        LakeBreath x = new LakeBreath();
        Due.denied("P12: no PIPES", x, x.start(0), 1);
        x.pipe(0, 9, 500, 1);
        Due.granted("P12: without GAS it is STARTED", x, x.start(0));
        x.pass(1);
        Due.be("P12: and stops by itself", x.pipeOf(0, 2), 0);
        Due.granted("P12: and is STARTED anew", x, x.start(0));
        Due.denied("P12: RUNS already", x, x.start(0), 5);
    }

    private static void crew() {
        LakeBreath x = Edges.some();
        Due.be("P37: THE CREW is nowhere", x.count(8), -2);
        x.move(0, 9);
        x.start(1);
        x.move(9, 9);
        x.start(-1);
        Due.be("P37: refused it goes nowhere", x.count(8), -2);
        Due.granted("P11: moved", x, x.move(2, 5));
        Due.be("P37: THE CREW is there", x.count(8), 1);
        Due.denied("P11: not at the other LAKE TODAY", x, x.move(0, 5), 6);
        Due.denied("P12: nor to start", x, x.start(0), 6);
        Due.be("P37: it stays there", x.count(8), 1);
        Due.granted("P12: more at the same LAKE", x, x.start(2));
        Due.granted("P11: and more", x, x.move(2, 4));
        x.pass(0);
        Due.be("P37: no DAY has gone by", x.count(8), 1);
        Due.denied("P11: no DAY has gone by", x, x.move(0, 5), 6);
        x.pass(1);
        Due.be("P37: a DAY has", x.count(8), -2);
        Due.granted("P11: another DAY, another LAKE", x, x.move(0, 5));
        Due.be("P37: THE CREW is there", x.count(8), 0);
    }

    /** RULES are asked for the PIPE's LAKE as it is now. */
    private static void work() {
        LakeBreath x = Edges.some();
        x.rule(0);
        Due.rule(x, "work if wind < 30");
        x.wind(30);
        Due.denied("P12: wind 30", x, x.start(0), 6);
        x.wind(29);
        Due.granted("P12: wind 29", x, x.start(0));
        x.wind(30);
        Due.be("P12: it RUNS on", x.pipeOf(0, 2), 1);
        LakeBreath y = Edges.some();
        y.rule(0);
        Due.rule(y, "shut if run = 1 and height = 0");
        Due.denied("P12: one RUNS at LAKE 0", y, y.start(0), 6);
        Due.granted("P12: none at LAKE 1", y, y.start(2));
        Due.denied("P11: now one RUNS there", y, y.move(2, 5), 6);
    }

    private static void belowShare() {
        LakeBreath x = steady(1000, 1000);
        gas(x, 9, 900);
        Due.be("P13: FULL 9 is below 10", x.plan(0, 10), 1);
        Due.be("P13: FULL 9 isn't below 9", x.plan(0, 9), -2);
        Due.be("P15: FULL 9 is below 10", x.check(0, 10, 0, 0, 0), 1);
        Due.be("P15: FULL 9 isn't below 9", x.check(0, 9, 0, 0, 0), -2);
        LakeBreath y = steady(1000, 1000);
        Due.be("P13: none is below 1", y.plan(0, 1), 1);
        gas(y, 9, 99);
        Due.be("P13: a 100th less is below 1", y.plan(0, 1), 1);
        gas(y, 9, 100);
        Due.be("P13: a 100th isn't", y.plan(0, 1), -2);
        Due.be("P13: what is as FULL as it HOLDS is below 200", y.plan(0, 200), 1);
    }

    private static void sixtyDays() {
        // GAS of 1,000 to 1,999 by a MIX of 1,000: one a DAY goes up. FULL by 2,000 is below 70 with 1,399.
        int[][] rows = {{1399, 1}, {1400, 1}, {1401, 2}, {1458, 59}, {1459, 60}, {1460, -2}};
        for (int[] row : rows) {
            LakeBreath x = steady(200, 1000);
            gas(x, 9, row[0]);
            Due.be("P13: without PIPES, " + row[0], x.plan(0, 70), row[1]);
            Due.be("P15: without PIPES, " + row[0], x.check(0, 70, 0, 0, 0), row[1]);
            x.pipe(0, 9, 1, 0);
            Due.be("P13: a PIPE that stays, " + row[0], x.plan(0, 70), row[1]);
            Due.be("P15: a PIPE that stays, " + row[0], x.check(0, 70, 9, 0, 0), row[1]);
        }
    }

    private static void burstInThese() {
        // LAYER 9 HOLDS 2,000; a PIPE of 500 takes a half on its first DAY there.
        LakeBreath x = steady(200, 1000);
        gas(x, 9, 2001);
        Due.be("P15: 2,001 less 2 that go up", x.check(0, 100, 0, 0, 0), 1);
        gas(x, 9, 2003);
        Due.be("P15: a BURST on the first DAY", x.check(0, 200, 0, 0, 0), -2);
        Due.be("P13: a BURST on the first DAY", x.plan(0, 200), -2);
        x.pipe(0, 0, 500, 0);
        Due.be("P13: a PIPE keeps it from that", x.plan(0, 200), 1);
        Due.be("P14: by LAYER 9", x.planned(0), 9);
        Due.be("P15: LAYER 8 does not", x.check(0, 200, 8, 0, 0), -2);
        // All is low behind the BURST, but there was one.
        gas(x, 8, 1803);
        Due.be("P13: LAYER 8 BURSTS on the first DAY", x.plan(0, 50), -2);
        Due.be("P14: the latest that told DAYS", x.planned(0), 9);
        LakeBreath y = steady(200, 1000);
        gas(y, 9, 1990);
        y.set(0, 2, 6);
        Due.be("P15: FULL is below 100 on the first DAY", y.check(0, 100, 0, 0, 0), 1);
        Due.be("P15: and never lower ahead of a BURST", y.check(0, 99, 0, 0, 0), -2);
        y.set(1, 1, 20000);
        y.set(1, 2, 1);
        Due.be("P15: what HOLDS none BURSTS each DAY", y.check(1, 200, 0, 0, 0), -2);
        y.set(1, 2, 0);
        Due.be("P15: without GAS it doesn't", y.check(1, 1, 0, 0, 0), 1);
    }

    private static void stays() {
        LakeBreath x = steady(1000, 1000);
        gas(x, 9, 5000);
        x.pipe(0, 9, 500, 0);
        Due.be("P15: one that stays and doesn't RUN", x.check(0, 40, 9, 0, 0), -2);
        Due.be("P13: nor by a plan", x.plan(0, 40), -2);
        x.start(0);
        Due.be("P15: one that stays and RUNS", x.check(0, 40, 9, 0, 0), 1);
        Due.be("P13: by a plan", x.plan(0, 40), 1);
        Due.be("P14: it stays", x.planned(0), 9);
        Due.be("P15: one that is moved elsewhere", x.check(0, 40, 8, 0, 0), -2);
        LakeBreath y = steady(1000, 1000);
        gas(y, 9, 5000);
        y.pipe(0, 0, 500, 3000);
        y.pass(1);
        Due.be("P15: moved it RUNS, without stirring", y.check(0, 25, 9, 0, 0), 1);
        Due.be("P15: then it stops below its LIFT", y.check(0, 23, 9, 0, 0), -2);
        Due.be("P15: none is changed", y.of(0, 9, 0) + y.pipeOf(0, 1) + y.pipeOf(0, 2) + y.pipeOf(0, 4), 4995);
    }

    private static void fewestDays() {
        // One PIPE at LAYER 9 alone needs two DAYS, both there one.
        LakeBreath x = steady(1000, 1000);
        gas(x, 9, 8000);
        x.pipe(0, 9, 500, 0);
        x.pipe(0, 3, 500, 0);
        x.start(0);
        Due.be("P15: none moved", x.check(0, 21, 9, 3, 0), 2);
        Due.be("P15: one moved", x.check(0, 21, 9, 9, 0), 1);
        Due.be("P13: the fewest DAYS, though one is moved", x.plan(0, 21), 1);
        Due.be("P14", x.planned(1), 9);
        Due.be("P13: as few DAYS, none moved", x.plan(0, 41), 1);
        Due.be("P14", x.planned(1), 3);
    }

    private static void fewestMoved() {
        // By LAYERS one would move the first or both; by PIPES moved it is the second alone.
        LakeBreath x = steady(1000, 1000);
        gas(x, 9, 8000);
        x.pipe(0, 8, 400, 0);
        x.pipe(0, 0, 500, 0);
        x.pipe(0, 7, 450, 0);
        Due.be("P13", x.plan(0, 41), 1);
        Due.be("P14: the first stays", x.planned(0), 8);
        Due.be("P14: the second is moved", x.planned(1), 9);
        Due.be("P14: the third stays", x.planned(2), 7);
        Due.be("P13: two are needed", x.plan(0, 25), 1);
        Due.be("P14: of as few by the lesser LAYER of the first", x.planned(0), 8);
        Due.be("P14: the second", x.planned(1), 9);
        Due.be("P14: the third", x.planned(2), 9);
        Due.be("P13: three are needed", x.plan(0, 14), 1);
        Due.be("P14: all three", x.planned(0) + x.planned(1) + x.planned(2), 27);
    }

    private static void lesserLayer() {
        LakeBreath x = steady(1000, 1000);
        gas(x, 6, 5000);
        gas(x, 4, 3500);
        x.pipe(0, 9, 500, 0);
        x.pipe(0, 9, 500, 0);
        Due.be("P13: both are moved", x.plan(0, 50), 1);
        Due.be("P14: the lesser LAYER of the lesser PIPE", x.planned(0), 4);
        Due.be("P14: then the other", x.planned(1), 6);
        gas(x, 4, 0);
        Due.be("P13: one is moved", x.plan(0, 50), 1);
        Due.be("P14: the lesser LAYER of the lesser PIPE is the moved one", x.planned(0), 6);
        Due.be("P14: the other stays", x.planned(1), 9);
        LakeBreath y = steady(1000, 1000);
        gas(y, 6, 5000);
        y.pipe(0, 2, 500, 0);
        y.pipe(0, 2, 500, 0);
        Due.be("P13: one is moved", y.plan(0, 50), 1);
        Due.be("P14: the lesser LAYER of the lesser PIPE is the one that stays", y.planned(0), 2);
        Due.be("P14: the other is moved", y.planned(1), 6);
    }

    private static void planned() {
        for (int i : new int[] {0, -1, 1, Edges.LEAST, Edges.MOST}) {
            Due.noSuchElement("P14: ahead of any plan, " + i, new LakeBreath(), i);
        }
        LakeBreath x = new LakeBreath();
        x.plan(0, 1);
        Due.noSuchElement("P14: a LAKE without PIPES", x, 0);
        for (int pipes = 1; pipes <= 3; pipes++) {
            x.pipe(0, pipes, 1, 0);
            Due.noSuchElement("P14: planned ahead of that PIPE", x, pipes - 1);
            Due.be("P13", x.plan(0, 1), 1);
            for (int i = 0; i < pipes; i++) {
                Due.be("P14: the " + i + "-th PIPE", x.planned(i), i + 1);
            }
            for (int i : new int[] {pipes, 3, -1, Edges.LEAST, Edges.MOST}) {
                Due.noSuchElement("P14: of " + pipes + ", " + i, x, i);
            }
        }
        x.plan(0, 0);
        x.plan(2, 1);
        Due.be("P14: a refused plan() tells no DAYS", x.planned(2), 3);
        x.layer(1, 9, 9000, 0, 900);
        Due.be("P13: none", x.plan(1, 1), -2);
        Due.be("P14: -2 is no DAYS", x.planned(2), 3);
        x.check(0, 1, 9, 9, 9);
        Due.be("P14: check() is no plan()", x.planned(2), 3);
        x.move(0, 7);
        Due.be("P14: as it was planned", x.planned(0), 1);
        Due.be("P13: the other LAKE", x.plan(1, 200), 1);
        Due.noSuchElement("P14: it has no PIPES", x, 0);
        int before = x.trouble();
        Due.noSuchElement("P14: once more", x, 0);
        Due.be("P14: planned tells no trouble", x.trouble(), before);
    }

    private static LakeBreath pipes(int count) {
        LakeBreath x = new LakeBreath();
        for (int i = 0; i < count; i++) {
            x.pipe(1, 9 - i, 10, 0);
        }
        return x;
    }

    private static void checkLayers() {
        int[] bad = {-1, 10, Edges.LEAST, Edges.MOST};
        for (int count = 0; count <= 3; count++) {
            int pipes = count;
            for (int at = 0; at < 3; at++) {
                for (int layer : bad) {
                    int[] n = {0, 9, 5};
                    n[at] = layer;
                    if (at < count) {
                        Edges.refused("P15: of " + count + " PIPES", () -> pipes(pipes),
                                (x, m) -> x.check(1, 1, m[0], m[1], m[2]), -1, 2, n);
                    } else {
                        LakeBreath x = pipes(count);
                        Due.be("P15: of PIPES that there aren't", x.check(1, 1, n[0], n[1], n[2]), 1);
                        Due.be("P15: trouble", x.trouble(), 0);
                    }
                }
            }
        }
        Edges.refused("P15: 1 ahead of 2", () -> pipes(3), (x, n) -> x.check(2, 0, 10, 10, 10), -1, 1);
    }

    private static void checkDays() {
        // Two in three stay in LAYER 9: 9,000, 6,000, 4,000; the first of it that goes up is of no matter.
        LakeBreath x = steady(10000, 1000);
        gas(x, 9, 90000);
        x.pipe(0, 3, 500, 0);
        x.pipe(0, 4, 500, 0);
        Due.be("P15: one PIPE there", x.check(0, 12, 9, 4, 0), 3);
        Due.be("P15: the other PIPE there", x.check(0, 12, 3, 9, 0), 3);
        Due.be("P15: both there", x.check(0, 12, 9, 9, 0), 2);
        Due.be("P15: none there", x.check(0, 12, 3, 4, 0), -2);
        Due.be("P15: -2 isn't refused", x.trouble(), 0);
        Due.be("P13: as the best CHECKED", x.plan(0, 12), 2);
        x.pipe(0, 5, 500, 0);
        Due.be("P15: the third there", x.check(0, 12, 3, 4, 9), 3);
        Due.be("P15: the first and the third", x.check(0, 12, 9, 4, 9), 2);
        Due.be("P15: the second and the third", x.check(0, 12, 3, 9, 9), 2);
        Due.be("P15: all three", x.check(0, 12, 9, 9, 9), 1);
        Due.be("P15: none of three", x.check(0, 12, 3, 4, 5), -2);
    }
}
