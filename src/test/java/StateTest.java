/** Promises 7 to 13: state, link, energy, target, push, stopReason, switchesIn. */
public final class StateTest {
    // Captured far out and given up at once: in swing-up or balance, it switches in every tick.
    private static final String FLICKERING =
            "rail 9999; gravity 0 0; damping 0 0; push 0 0 1; couple 0; gains 0 0 0 0 0 0;"
            + "region 500 500 1 1; limit 1 9999; chatter 20 20 0;";

    public static void main(String[] args) {
        states();
        links();
        energies();
        balancingPush();
        swingPush();
        noPush();
        stopReasons();
        switchCounts();
        wrongInputs();
        Checks.finish();
    }

    private static void states() {
        CountedPendulum x = Plants.plant("gravity 0 0; push 0 0 60; couple 0; rail 1000;");
        x.setMode(1);
        // p is 0 at rest, so that each tick pushes the cart by the force.
        Checks.due("run", x.run(3), 1);
        Checks.due("tick", x.state(0), 3);
        Checks.due("mode", x.state(1), 1);
        Checks.due("x: 60 / 8 + 120 / 8 + 180 / 8", x.state(2), 7 + 15 + 22);
        Checks.due("v", x.state(3), 180);
        Checks.due("lock", x.state(4), 0);
        Checks.due("force", x.state(5), 60);
        Checks.due("switches", x.state(6), 0);
        Checks.due("stops", x.state(7), 0);
        Checks.due("resets", x.state(8), 0);
        x.setForce(7);
        Checks.due("force now", x.state(5), 7);
        x.run(1000);
        Checks.due("stopped", x.state(1), 3);
        Checks.due("at the end", x.state(2), 1000);
        Checks.due("v there", x.state(3), 0);
        Checks.due("stops then", x.state(7), 1);
        x.reset(1, 2);
        Checks.due("resets then", x.state(8), 1);
        Checks.due("stops stay", x.state(7), 1);
        Checks.due("tick stays", x.state(0), 1003);

        CountedPendulum y = Plants.plant(FLICKERING);
        y.reset(200, 200);
        y.setMode(1);
        y.run(25);
        Checks.due("switches", y.state(6), 25);
        Checks.due("hold 0 is no lock", y.state(4), 0);
        CountedPendulum z = Plants.plant(FLICKERING.replace("20 20 0", "2 20 9"));
        z.reset(200, 200);
        z.setMode(1);
        z.run(3);
        Checks.due("lock", z.state(4), 9);
        z.run(1);
        Checks.due("lock decreases", z.state(4), 8);
    }

    private static void links() {
        CountedPendulum x = new CountedPendulum();
        x.reset(5, 2048);
        x.nudge(1, 33);
        x.nudge(2, -44);
        Checks.due("angle 1", x.link(1, 0), 5);
        Checks.due("speed 1", x.link(1, 1), 33);
        Checks.due("lean 1", x.link(1, 2), 5);
        Checks.due("angle 2", x.link(2, 0), 2048);
        Checks.due("speed 2", x.link(2, 1), -44);
        Checks.due("lean 2", x.link(2, 2), -2048);
        x.reset(4095, 2047);
        Checks.due("lean 1", x.link(1, 2), -1);
        Checks.due("lean 2", x.link(2, 2), 2047);
    }

    private static void energies() {
        CountedPendulum x = new CountedPendulum();
        Checks.due("energy 1", x.energy(1), -417200);
        Checks.due("energy 2", x.energy(2), -625800);
        Checks.due("target 1", x.target(1), 417200);
        Checks.due("target 2", x.target(2), 625800);
        x.reset(0, 1024);
        Checks.due("upright", x.energy(1), 417200);
        Checks.due("level", x.energy(2), 0);
        x.nudge(2, 5);
        Checks.due("25 / 2", x.energy(2), 12);
        x.nudge(2, -10);
        Checks.due("the same backwards", x.energy(2), 12);
        x.reset(1025, 1023);
        Checks.due("40 * -6 * 10430 / 4096", x.energy(1), -611);
        Checks.due("60 * 6 * 10430 / 4096", x.energy(2), 916);
        x.nudge(1, 1);
        Checks.due("parts are cut one by one", x.energy(1), -611);

        CountedPendulum y = Plants.plant("gravity 200 0;");
        Checks.due("target 1", y.target(1), 2086000);
        Checks.due("target 2", y.target(2), 0);
        Checks.due("energy 1", y.energy(1), -2086000);
        y.reset(0, 0);
        Checks.due("energy 1", y.energy(1), 2086000);
        Checks.due("energy 2", y.energy(2), 0);
        for (int k = 0; k < 19; k++) {
            y.nudge(1, 500);
            y.nudge(2, -500);
        }
        Checks.due("fast", y.energy(1), 9500L * 9500 / 2 + 2086000);
        Checks.due("fast backwards", y.energy(2), 9500L * 9500 / 2);
    }

    private static CountedPendulum balancing(String text, int a1, int a2, int w1, int w2) {
        CountedPendulum x = Plants.plant(text);
        x.reset(a1, a2);
        x.nudge(1, w1);
        x.nudge(2, w2);
        x.setMode(2);
        return x;
    }

    private static void balancingPush() {
        Checks.due("(240 + 80) / 64", balancing("", 60, 20, 0, 0).push(), 5);
        Checks.due("-(240 + 80) / 64", balancing("", 4036, 4076, 0, 0).push(), -5);
        Checks.due("-60 / 64", balancing("", 0, 4081, 0, 0).push(), 0);
        Checks.due("(8 * 16 + 8 * -4) / 64", balancing("", 0, 0, 16, -4).push(), 1);
        Checks.due("at most force", balancing("", 2000, 2000, 0, 0).push(), 60);
        Checks.due("at least -force", balancing("", 2048, 2048, 0, 0).push(), -60);
        Checks.due("just force", balancing("", 960, 0, 0, 0).push(), 60);
        Checks.due("just -force", balancing("", 3136, 0, 0, 0).push(), -60);
        Checks.due("each gain", balancing("gains 64 0 0 0 0 0; push 1 1 500;", 3, 50, 70, 110).push(), 3);
        Checks.due("each gain", balancing("gains 0 64 0 0 0 0; push 1 1 500;", 3, 50, 70, 110).push(), 70);
        Checks.due("each gain", balancing("gains 0 0 64 0 0 0; push 1 1 500;", 3, 50, 70, 110).push(), 50);
        Checks.due("each gain", balancing("gains 0 0 0 64 0 0; push 1 1 500;", 3, 50, 70, 110).push(), 110);
        CountedPendulum x = Plants.plant("gains 0 0 0 0 64 0; gravity 0 0; push 0 0 60; couple 0;");
        CountedPendulum y = Plants.plant("gains 0 0 0 0 0 64; gravity 0 0; push 0 0 60; couple 0;");
        for (CountedPendulum z : new CountedPendulum[] {x, y}) {
            z.setMode(1);
            z.run(3);
            z.setForce(500);
            z.setMode(2);
        }
        Checks.due("gain of x", x.push(), 44);
        Checks.due("gain of v", y.push(), 180);
    }

    private static CountedPendulum swinging(int angle, int speed) {
        CountedPendulum x = new CountedPendulum();
        x.reset(angle, 2048);
        x.nudge(1, speed);
        x.setMode(1);
        return x;
    }

    private static void swingPush() {
        Checks.due("no speed", swinging(2048, 0).push(), 60);
        Checks.due("no cosine", swinging(1024, -100).push(), 60);
        Checks.due("no cosine", swinging(3072, 100).push(), 60);
        Checks.due("too slow, p below 0", swinging(2048, 100).push(), 60);
        Checks.due("too slow, p above 0", swinging(2048, -100).push(), -60);
        Checks.due("too slow, p above 0", swinging(100, 10).push(), -60);
        Checks.due("too slow, p below 0", swinging(100, -10).push(), 60);
        Checks.due("fast enough, p above 0", swinging(0, 10).push(), 60);
        Checks.due("fast enough, p below 0", swinging(0, -10).push(), -60);
        Checks.due("the target itself, p above 0", swinging(0, 1).push(), 60);
        Checks.due("the target itself, p below 0", swinging(0, -1).push(), -60);
        CountedPendulum x = swinging(2048, 500);
        x.nudge(1, 500);
        x.nudge(1, 291);
        Checks.due("energy one step below", x.energy(1) < x.target(1), true);
        Checks.due("below", x.push(), 60);
        x.nudge(1, 1);
        Checks.due("energy one step above", x.energy(1) < x.target(1), false);
        Checks.due("above", x.push(), -60);
        x.setForce(9);
        Checks.due("the force of now", x.push(), -9);
        // A far-out state that could not be captured, and one that could: the mode stays what it is.
        CountedPendulum y = new CountedPendulum();
        y.reset(0, 0);
        y.setMode(1);
        Checks.due("capturable", y.isCapturable(), true);
        Checks.due("the present mode counts", y.push(), 60);
    }

    private static void noPush() {
        CountedPendulum x = new CountedPendulum();
        x.reset(60, 20);
        Checks.due("idle", x.push(), 0);
        CountedPendulum y = Plants.plant("limit 512 10;");
        y.reset(60, 20);
        y.nudge(1, 100);
        y.run(1);
        Checks.due("stopped", y.state(1), 3);
        Checks.due("stopped", y.push(), 0);
    }

    private static void stopReasons() {
        CountedPendulum x = Plants.plant("rail 6; limit 512 100; push 0 0 60; gravity 0 0; damping 0 0; couple 0;");
        Checks.due("none yet", x.stopReason(), 0);
        x.nudge(1, 101);
        Checks.due("not by a nudge", x.state(1), 0);
        Checks.due("run", x.run(1), 3);
        Checks.due("overspeed", x.stopReason(), 2);
        x.reset(1024, 1024);
        Checks.due("the latest stays", x.stopReason(), 2);
        x.setMode(1);
        Checks.due("run", x.run(1), 3);
        Checks.due("rail end", x.stopReason(), 1);
        Checks.due("stops", x.state(7), 2);
        x.run(5);
        Checks.due("no stop while stopped", x.state(7), 2);
        x.reset(0, 0);
        x.nudge(2, -101);
        Checks.due("run", x.run(1), 3);
        Checks.due("overspeed of link 2", x.stopReason(), 2);
        x.reset(1024, 1024);
        x.nudge(1, 101);
        x.setMode(1);
        Checks.due("run", x.run(1), 3);
        Checks.due("a rail end goes before overspeed", x.stopReason(), 1);
        Checks.due("x", x.state(2), 6);
        x.reset(0, 0);
        x.nudge(1, 100);
        Checks.due("just the limit is no overspeed", x.run(1), 0);
        x.nudge(1, -200);
        Checks.due("just the limit is no overspeed", x.run(1), 0);
    }

    private static void switchCounts() {
        CountedPendulum x = Plants.plant(FLICKERING);
        Checks.due("none", x.switchesIn(200), 0);
        x.reset(200, 200);
        x.setMode(1);
        x.run(3);
        Checks.due("the tick of now", x.switchesIn(1), 1);
        Checks.due("two ticks", x.switchesIn(2), 2);
        Checks.due("before the first tick there is none", x.switchesIn(200), 3);
        x.run(397);
        for (int ticks = 1; ticks <= 200; ticks++) {
            Checks.due("switchesIn " + ticks, x.switchesIn(ticks), ticks);
        }
        x.setMode(0);
        Checks.due("by hand is no switch", x.state(6), 400);
        x.run(70);
        Checks.due("long ago", x.switchesIn(70), 0);
        Checks.due("one more tick", x.switchesIn(71), 1);
        Checks.due("at most", x.switchesIn(200), 130);
        x.reset(0, 0);
        Checks.due("a reset leaves them", x.switchesIn(200), 130);
        x.nudge(1, 500);
        x.setMode(0);
        x.run(130);
        Checks.due("all too long ago", x.switchesIn(200), 0);
        Checks.due("since the beginning", x.state(6), 400);

        CountedPendulum y = Plants.plant(FLICKERING.replace("limit 1 9999", "limit 1 100"));
        y.reset(200, 200);
        y.setMode(1);
        y.run(3);
        y.nudge(1, 200);
        Checks.due("stopped", y.run(1), 3);
        Checks.due("the tick of the stop", y.switchesIn(1), 1);
        y.run(100);
        Checks.due("ticks pass while stopped", y.switchesIn(100), 0);
        Checks.due("ticks pass while stopped", y.switchesIn(101), 1);
        Checks.due("ticks pass while stopped", y.switchesIn(104), 4);
    }

    private static void wrongInputs() {
        CountedPendulum x = new CountedPendulum();
        for (int what : new int[] {-1, 9, Integer.MIN_VALUE, Integer.MAX_VALUE}) {
            Checks.throwsArgument("state " + what, () -> x.state(what));
            Checks.throwsArgument("link 1 " + what, () -> x.link(1, what));
        }
        Checks.throwsArgument("link 1 3", () -> x.link(1, 3));
        for (int link : new int[] {-1, 0, 3, Integer.MIN_VALUE, Integer.MAX_VALUE}) {
            Checks.throwsIndex("link " + link, () -> x.link(link, 0));
            Checks.throwsIndex("link is checked first", () -> x.link(link, 3));
            Checks.throwsIndex("energy " + link, () -> x.energy(link));
            Checks.throwsIndex("target " + link, () -> x.target(link));
        }
        for (int ticks : new int[] {0, -1, 201, Integer.MIN_VALUE, Integer.MAX_VALUE}) {
            Checks.throwsArgument("switchesIn " + ticks, () -> x.switchesIn(ticks));
        }
    }
}
