/** Promises 9 to 15: pipes, the crew, PLAN and CHECKED. */
public final class PipesTest {
    public static void main(String[] args) {
        pipe();
        pipeOf();
        move();
        start();
        crew();
        plan();
        planOrder();
        planOfAllThree();
        planDays();
        planned();
        check();
        Due.end();
    }

    private static void pipe() {
        LakeBreath x = new LakeBreath();
        Due.refused("pipe lake", x, x.pipe(2, 0, 1, 0), 1);
        Due.refused("pipe lake", x, x.pipe(-1, 0, 1, 0), 1);
        Due.refused("pipe layer", x, x.pipe(0, 10, 1, 0), 1);
        Due.refused("pipe layer", x, x.pipe(0, -1, 0, 0), 1);
        Due.refused("pipe flow", x, x.pipe(0, 0, 0, 0), 2);
        Due.refused("pipe flow", x, x.pipe(0, 0, 501, 0), 2);
        Due.refused("pipe lift", x, x.pipe(0, 0, 1, -1), 2);
        Due.refused("pipe lift", x, x.pipe(0, 0, 1, 100001), 2);
        Due.be("first", x.pipe(1, 9, 500, 100000), 0);
        Due.be("trouble", x.trouble(), 0);
        Due.be("second", x.pipe(0, 0, 1, 0), 1);
        Due.be("third", x.pipe(1, 9, 1, 0), 2);
        Due.be("fourth", x.pipe(1, 8, 1, 0), 3);
        Due.refused("a fourth of one LAKE", x, x.pipe(1, 7, 1, 0), 3);
        Due.refused("2 ahead of 3", x, x.pipe(1, 7, 0, 0), 2);
        Due.be("fifth", x.pipe(0, 0, 1, 0), 4);
        Due.be("sixth", x.pipe(0, 0, 1, 0), 5);
        Due.refused("seventh", x, x.pipe(0, 0, 1, 0), 3);
        Due.be("PIPES", x.count(0), 6);
    }

    private static void pipeOf() {
        LakeBreath x = new LakeBreath();
        Due.be("pipeOf none", x.pipeOf(0, 0), -1);
        x.pipe(1, 7, 250, 10);
        Due.be("LAKE", x.pipeOf(0, 0), 1);
        Due.be("LAYER", x.pipeOf(0, 1), 7);
        Due.be("RUNS", x.pipeOf(0, 2), 0);
        Due.be("let off", x.pipeOf(0, 3), 0);
        Due.be("MOVED", x.pipeOf(0, 4), 0);
        Due.be("pipeOf what", x.pipeOf(0, 5), -1);
        Due.be("pipeOf what", x.pipeOf(0, -1), -1);
        Due.be("pipeOf pipe", x.pipeOf(1, 0), -1);
        Due.be("pipeOf pipe", x.pipeOf(-1, 0), -1);
        x.layer(1, 7, 1000, 0, 0);
        x.start(0);
        Due.be("RUNS", x.pipeOf(0, 2), 1);
        x.pass(1);
        Due.be("let off", x.pipeOf(0, 3), 250);
        x.pass(1);
        Due.be("let off in all", x.pipeOf(0, 3) > 250, true);
        x.move(0, 8);
        x.move(0, 3);
        Due.be("MOVED twice", x.pipeOf(0, 4), 2);
    }

    private static void move() {
        LakeBreath x = new LakeBreath();
        x.pipe(0, 5, 1, 0);
        Due.denied("move pipe", x, x.move(1, 0), 1);
        Due.denied("move pipe", x, x.move(-1, 0), 1);
        Due.denied("move layer", x, x.move(0, 10), 1);
        Due.denied("move layer", x, x.move(0, -1), 1);
        Due.denied("it is there", x, x.move(0, 5), 5);
        x.start(0);
        x.layer(0, 3, 11, 5, 7);
        x.layer(0, 4, 100, 50, 30);
        Due.granted("move", x, x.move(0, 4));
        Due.be("LAYER", x.pipeOf(0, 1), 4);
        Due.be("it doesn't RUN", x.pipeOf(0, 2), 0);
        int[] upper = {55, 27, 18};
        int[] lower = {56, 28, 19};
        for (int what = 0; what < 3; what++) {
            Due.be("mixed, upper " + what, x.of(0, 3, what), upper[what]);
            Due.be("mixed, lower " + what, x.of(0, 4, what), lower[what]);
        }
        x.layer(0, 0, 0, 0, 0);
        x.layer(0, 1, 9, 0, 0);
        x.layer(0, 2, 40, 0, 0);
        Due.granted("move to LAYER 0", x, x.move(0, 0));
        Due.be("mixed with the one below it", x.of(0, 0, 0), 4);
        Due.be("the lower has what is over", x.of(0, 1, 0), 5);
        Due.be("once", x.of(0, 2, 0), 40);
        Due.be("led none", x.led(0, 2), 0);
    }

    private static void start() {
        LakeBreath x = new LakeBreath();
        Due.denied("start none", x, x.start(0), 1);
        Due.denied("start none", x, x.start(-1), 1);
        x.pipe(0, 5, 1, 0);
        Due.granted("start", x, x.start(0));
        Due.be("RUNS", x.pipeOf(0, 2), 1);
        Due.denied("RUNS already", x, x.start(0), 5);
        Due.rule(x, "work if 1 > 2");
        Due.denied("5 ahead of 6", x, x.start(0), 5);
        Due.denied("5 ahead of 6", x, x.move(0, 5), 5);
        Due.denied("RULES don't let it", x, x.move(0, 6), 6);
        Due.be("so it RUNS", x.pipeOf(0, 2), 1);
        x.repeal(0);
        Due.rule(x, "shut if lake = 0");
        Due.denied("SHUT", x, x.move(0, 6), 6);
        x.repeal(0);
        Due.rule(x, "shut if lake = 1");
        Due.granted("the other LAKE is SHUT", x, x.move(0, 6));
    }

    private static void crew() {
        LakeBreath x = new LakeBreath();
        x.pipe(0, 5, 1, 0);
        x.pipe(1, 5, 1, 0);
        x.pipe(1, 5, 1, 0);
        Due.be("nowhere", x.count(8), -2);
        x.start(5);
        Due.be("a refused call sends none", x.count(8), -2);
        x.start(1);
        Due.be("there", x.count(8), 1);
        Due.granted("more at one LAKE", x, x.start(2));
        Due.denied("the other LAKE", x, x.start(0), 6);
        Due.denied("the other LAKE", x, x.move(0, 6), 6);
        x.pass(1);
        Due.be("another DAY", x.count(8), -2);
        Due.granted("the other LAKE then", x, x.move(0, 6));
        Due.be("there", x.count(8), 0);
        Due.denied("not back", x, x.move(1, 6), 6);
    }

    private static void plan() {
        LakeBreath x = new LakeBreath();
        Due.refused("plan lake", x, x.plan(2, 1), 1);
        Due.refused("plan lake", x, x.plan(-1, 0), 1);
        Due.refused("plan share", x, x.plan(0, 0), 2);
        Due.refused("plan share", x, x.plan(0, 201), 2);
        Due.be("no PIPES, no GAS", x.plan(0, 1), 1);
        Due.be("not refused", x.trouble(), 0);
        x.layer(0, 9, 5000, 0, 100);
        Due.be("no PIPES, GAS", x.plan(0, 1), -2);
        Due.be("-2 isn't refused", x.trouble(), 0);
        x.pipe(0, 0, 500, 0);
        Due.be("a PIPE", x.plan(0, 30), 1);
        Due.be("where the GAS is", x.planned(0), 9);
        Due.be("nothing is changed", x.pipeOf(0, 1), 0);
        Due.be("nor started", x.pipeOf(0, 2), 0);
        Due.be("nor stirred", x.of(0, 9, 0), 5000);
        Due.be("share 200", x.plan(0, 200), 1);
        Due.be("none is moved", x.planned(0), 0);
        x.set(0, 1, 6500);
        Due.be("a BURST in these DAYS", x.plan(0, 1), -2);
        Due.be("the latest that told DAYS", x.planned(0), 0);
    }

    private static void planOrder() {
        LakeBreath x = new LakeBreath();
        x.layer(0, 9, 5000, 0, 100);
        x.pipe(0, 4, 200, 0);
        x.pipe(0, 2, 200, 0);
        x.pipe(0, 9, 200, 0);
        Due.be("two at the ground, one DAY", x.plan(0, 32), 1);
        Due.be("the lesser PIPE's LAYER is the lesser", x.planned(0), 9);
        Due.be("the second too", x.planned(1), 9);
        Due.be("the third doesn't RUN where it is", x.planned(2), 9);
        x.start(2);
        Due.be("one is moved", x.plan(0, 32), 1);
        Due.be("by the fewest moved", x.planned(0), 4);
        Due.be("then the lesser LAYER of the lesser PIPE", x.planned(1), 9);
        Due.be("it goes on", x.planned(2), 9);
    }

    private static void planOfAllThree() {
        LakeBreath x = new LakeBreath();
        for (int i = 0; i < 10; i++) {
            x.layer(0, i, 0, 0, 100 * i);
        }
        x.set(0, 3, 1000);
        for (int i = 7; i < 10; i++) {
            x.layer(0, i, 500 * (i + 1), 0, 100 * i);
        }
        x.pipe(0, 0, 500, 0);
        x.pipe(0, 0, 500, 0);
        x.pipe(0, 0, 500, 0);
        Due.be("all three are moved", x.plan(0, 30), 1);
        Due.be("the lesser first", x.planned(0), 7);
        Due.be("then", x.planned(1), 8);
        Due.be("then", x.planned(2), 9);
        Due.be("by the second alone", x.check(0, 30, 0, 8, 0), -2);
        Due.be("each is tried where it is told", x.check(0, 30, 9, 7, 8), 1);
        Due.be("the third too", x.check(0, 30, 9, 7, 0), -2);
        Due.be("the second too", x.check(0, 30, 9, 0, 8), -2);
        Due.be("the first too", x.check(0, 30, 0, 7, 8), -2);
    }

    /** DAYS of PLAN are 60 at most. */
    private static void planDays() {
        // With a MIX of 1,000 and GAS from 1,000 to 1,999 one a DAY goes up; the PIPE can take none elsewhere.
        LakeBreath x = new LakeBreath();
        for (int i = 0; i < 10; i++) {
            x.layer(0, i, 0, 0, 100 * i);
        }
        x.set(0, 0, 200);
        x.set(0, 3, 1000);
        x.pipe(0, 9, 1, 0);
        x.layer(0, 9, 1459, 0, 900);
        Due.be("on the 60th DAY", x.check(0, 70, 9, 0, 0), 60);
        Due.be("plan too", x.plan(0, 70), 60);
        Due.be("planned", x.planned(0), 9);
        x.layer(0, 9, 1460, 0, 900);
        Due.be("on the 61st no more", x.check(0, 70, 9, 0, 0), -2);
        Due.be("plan neither", x.plan(0, 70), -2);
    }

    private static void planned() {
        LakeBreath x = new LakeBreath();
        Due.noSuchElement("planned ahead of any", x, 0);
        x.plan(0, 50);
        Due.noSuchElement("planned without PIPES", x, 0);
        x.pipe(0, 3, 1, 0);
        x.pipe(1, 6, 1, 0);
        x.pipe(0, 4, 1, 0);
        Due.noSuchElement("planned of PIPES that weren't there", x, 0);
        x.plan(0, 50);
        Due.be("planned 0", x.planned(0), 3);
        Due.be("planned 1", x.planned(1), 4);
        Due.noSuchElement("planned 2", x, 2);
        Due.noSuchElement("planned -1", x, -1);
        x.plan(1, 50);
        Due.be("planned of the other", x.planned(0), 6);
        Due.noSuchElement("planned of the other", x, 1);
        x.plan(0, 0);
        x.layer(0, 9, 9000, 0, 500);
        Due.be("no plan", x.plan(0, 1), -2);
        Due.be("planned stays", x.planned(0), 6);
    }

    private static void check() {
        LakeBreath x = new LakeBreath();
        Due.refused("check lake", x, x.check(2, 1, 0, 0, 0), 1);
        Due.refused("check lake", x, x.check(-1, 0, 0, 0, 0), 1);
        Due.refused("check share", x, x.check(0, 0, 0, 0, 0), 2);
        Due.refused("check share", x, x.check(0, 201, 0, 0, 0), 2);
        Due.be("LAYERS of no PIPES", x.check(0, 1, -5, 99, 10), 1);
        x.pipe(0, 4, 500, 0);
        Due.refused("check first", x, x.check(0, 1, 10, 0, 0), 2);
        Due.refused("check first", x, x.check(0, 1, -1, 0, 0), 2);
        Due.be("the others are of no matter", x.check(0, 1, 0, 10, -1), 1);
        x.pipe(0, 4, 1, 0);
        Due.refused("check second", x, x.check(0, 1, 0, 10, 0), 2);
        Due.be("the third is of no matter", x.check(0, 1, 0, 0, 10), 1);
        x.pipe(0, 4, 1, 0);
        Due.refused("check third", x, x.check(0, 1, 0, 0, 10), 2);
        x.layer(0, 9, 5000, 0, 100);
        Due.be("moved and started", x.check(0, 30, 9, 4, 4), 1);
        Due.be("one more DAY", x.check(0, 20, 9, 4, 4), 2);
        Due.be("where it is it doesn't RUN", x.check(0, 10, 4, 4, 4), -2);
        Due.be("-2 isn't refused", x.trouble(), 0);
        Due.be("nothing is changed", x.pipeOf(0, 1), 4);
        x.check(0, 30, 9, 4, 4);
        Due.noSuchElement("check plans none", x, 0);
        Due.be("as plan", x.plan(0, 20), x.check(0, 20, x.planned(0), x.planned(1), x.planned(2)));
        x.set(1, 2, 3000);
        Due.be("without a BURST", x.check(1, 1, 0, 0, 0), -2);
        lift();
    }

    private static void lift() {
        LakeBreath x = new LakeBreath();
        x.pipe(0, 0, 500, 3000);
        x.layer(0, 9, 5000, 0, 100);
        Due.be("as long as there is enough", x.check(0, 30, 9, 0, 0), 1);
        Due.be("then it stops", x.check(0, 2, 9, 0, 0), -2);
        x.layer(0, 9, 2999, 0, 100);
        Due.be("too little", x.check(0, 16, 9, 0, 0) > 1, true);
    }
}
