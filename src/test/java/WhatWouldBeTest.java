/** Promises 20 to 23: ticksToBalance, ticksToStop, farthest, linkAfter. */
public final class WhatWouldBeTest {
    // In swing-up at rest, the push is the force: x is 10, 30, 60, 100 behind the ticks.
    private static final String PUSHED = "gravity 0 0; damping 0 0; push 0 0 80; couple 0; region 9 9 0 1; rail ";

    public static void main(String[] args) {
        balance();
        stop();
        distance();
        links();
        beyondTheLatestTick();
        nothingChanges();
        wrongInputs();
        Checks.finish();
    }

    private static void balance() {
        CountedPendulum x = new CountedPendulum();
        Checks.due("idle", x.ticksToBalance(1000), -1);
        x.reset(0, 0);
        x.setMode(1);
        Checks.due("at once", x.ticksToBalance(1), 1);
        Checks.due("not within 0 ticks", x.ticksToBalance(0), -1);
        x.run(1);
        Checks.due("now", x.ticksToBalance(0), 0);
        Checks.due("now", x.ticksToBalance(1000), 0);

        // The links turn back by 10 in a tick; lean 97 is the last one in cell (1, 0), and 152 - 6 * 10 is 92.
        // The tick that captures looks at the state before its own step, so it is the seventh.
        CountedPendulum y = Plants.plant("gravity 0 0; damping 0 0; push 0 0 1; couple 0; region 65 400 1 1; rail 9999;");
        y.reset(152, 152);
        y.nudge(1, -160);
        y.nudge(2, -160);
        y.setMode(1);
        Checks.due("cell (1, 0) is verified", y.reason(1, 0), 0);
        int due = 0;
        CountedPendulum z = Plants.plant("gravity 0 0; damping 0 0; push 0 0 1; couple 0; region 65 400 1 1; rail 9999;");
        z.reset(152, 152);
        z.nudge(1, -160);
        z.nudge(2, -160);
        z.setMode(1);
        while (z.run(1) != 2) {
            due++;
        }
        Checks.due("as by run", y.ticksToBalance(1000), due + 1);
        Checks.due("captured", y.ticksToBalance(7), 7);
        Checks.due("just not", y.ticksToBalance(6), -1);

        // Captured and stopped in one tick: the mode is not 2 behind that tick.
        CountedPendulum v = Plants.plant("rail 1; push 1 1 500; gains 99 0 0 0 0 0; region 64 32 0 1;");
        v.reset(31, 0);
        v.setMode(1);
        Checks.due("capturable", v.isCapturable(), true);
        Checks.due("stopped at once", v.ticksToStop(1), 1);
        Checks.due("never in balance", v.ticksToBalance(1000), -1);
        Checks.due("run", v.run(1), 3);
        Checks.due("the switch counts", v.state(6), 1);
        Checks.due("stopped", v.ticksToBalance(1000), -1);
    }

    private static void stop() {
        CountedPendulum x = Plants.plant(PUSHED + "99;");
        Checks.due("idle", x.ticksToStop(1000), -1);
        x.setMode(1);
        Checks.due("behind the fourth tick", x.ticksToStop(1000), 4);
        Checks.due("just within", x.ticksToStop(4), 4);
        Checks.due("not within", x.ticksToStop(3), -1);
        Checks.due("not within", x.ticksToStop(0), -1);
        x.run(3);
        Checks.due("one tick more", x.ticksToStop(1), 1);
        x.run(1);
        Checks.due("now", x.ticksToStop(0), 0);
        Checks.due("now", x.ticksToStop(9), 0);
    }

    private static void distance() {
        CountedPendulum x = Plants.plant(PUSHED + "105;");
        x.setMode(1);
        int[] distances = {0, 10, 30, 60, 100, 105, 105};
        for (int ticks = 0; ticks < distances.length; ticks++) {
            Checks.due("farthest " + ticks, x.farthest(ticks), distances[ticks]);
        }
        Checks.due("farthest 1000", x.farthest(1000), 105);
        x.run(2);
        Checks.due("now", x.farthest(0), 30);
        Checks.due("and one more", x.farthest(1), 60);

        // To the left: -80 in each tick while link 1 turns with p above 0; then back over the start.
        CountedPendulum y = Plants.plant("damping 0 0; push 0 0 80; couple 0; region 9 9 0 1; gravity 1 0; rail 300;");
        y.reset(300, 300);
        y.nudge(1, 16);
        y.setMode(1);
        Checks.due("to the left", y.push(), -80);
        Checks.due("farthest to the left", y.farthest(3), 60);
        y.run(3);
        Checks.due("x", y.state(2), -60);
        Checks.due("farthest now", y.farthest(0), 60);
        y.setMode(2);
        int least = y.state(2);
        int most = least;
        CountedPendulum z = Plants.plant("damping 0 0; push 0 0 80; couple 0; region 9 9 0 1; gravity 1 0; rail 300;");
        z.reset(300, 300);
        z.nudge(1, 16);
        z.setMode(1);
        z.run(3);
        z.setMode(2);
        for (int ticks = 1; ticks <= 60; ticks++) {
            z.run(1);
            least = Math.min(least, z.state(2));
            most = Math.max(most, z.state(2));
            Checks.due("farthest " + ticks, y.farthest(ticks), Math.max(-least, most));
        }
    }

    private static void links() {
        CountedPendulum x = new CountedPendulum();
        x.reset(300, 3900);
        x.nudge(1, 90);
        x.nudge(2, -70);
        x.setMode(1);
        CountedPendulum y = new CountedPendulum();
        y.reset(300, 3900);
        y.nudge(1, 90);
        y.nudge(2, -70);
        y.setMode(1);
        for (int ticks = 0; ticks <= 60; ticks++) {
            for (int link = 1; link <= 2; link++) {
                for (int what = 0; what <= 2; what++) {
                    Checks.due("linkAfter " + ticks, x.linkAfter(link, what, ticks), y.link(link, what));
                }
            }
            y.run(1);
        }
        y.run(939);
        Checks.due("linkAfter 1000", x.linkAfter(1, 0, 1000), y.link(1, 0));
    }

    private static void beyondTheLatestTick() {
        CountedPendulum x = Plants.plant("gravity 0 0; damping 0 0; push 0 0 80; couple 0; region 9 9 0 1; rail 99;");
        for (int k = 0; k < 9; k++) {
            x.run(1000);
        }
        x.run(999);
        Checks.due("tick", x.state(0), 9999);
        x.nudge(1, 16);
        Checks.due("linkAfter goes on", x.linkAfter(1, 0, 1000), 2048 + 1000);
        Checks.due("linkAfter goes on", x.linkAfter(1, 2, 1), 2049 - 4096);
        x.reset(2048, 2048);
        x.setMode(1);
        Checks.due("farthest goes on", x.farthest(3), 60);
        Checks.due("ticksToStop goes on", x.ticksToStop(1000), 4);
        x.reset(0, 0);
        x.setMode(1);
        Checks.due("ticksToBalance goes on", x.ticksToBalance(1000), 1);
        Checks.due("tick", x.state(0), 9999);
    }

    private static void nothingChanges() {
        CountedPendulum x = new CountedPendulum();
        x.reset(10, 4000);
        x.nudge(1, 40);
        x.setMode(1);
        x.run(7);
        x.saveSnapshot(0);
        x.nudge(2, 4);
        String before = Plants.shown(x);
        for (int ticks : new int[] {0, 1, 50, 1000}) {
            x.ticksToBalance(ticks);
            x.ticksToStop(ticks);
            x.farthest(ticks);
            x.linkAfter(1, 0, ticks);
        }
        Checks.sameText("nothing changed", Plants.shown(x), before);
        Checks.due("they are no changes", x.undo(), 4);
        Checks.due("nor do they touch slots", x.saveSnapshot(1), false);
        Checks.due("nor do they touch slots", x.restoreSnapshot(0), 7);
    }

    private static void wrongInputs() {
        CountedPendulum x = new CountedPendulum();
        for (int wrong : new int[] {-1, 1001, Integer.MIN_VALUE, Integer.MAX_VALUE}) {
            Checks.throwsArgument("ticksToBalance " + wrong, () -> x.ticksToBalance(wrong));
            Checks.throwsArgument("ticksToStop " + wrong, () -> x.ticksToStop(wrong));
            Checks.throwsArgument("farthest " + wrong, () -> x.farthest(wrong));
            Checks.throwsArgument("linkAfter ticks " + wrong, () -> x.linkAfter(1, 0, wrong));
            Checks.throwsArgument("linkAfter what " + wrong, () -> x.linkAfter(1, wrong, 1));
            Checks.throwsIndex("linkAfter link " + wrong, () -> x.linkAfter(wrong, 0, 1));
            Checks.throwsIndex("link is checked first", () -> x.linkAfter(wrong, 3, 1001));
        }
        Checks.throwsArgument("linkAfter what 3", () -> x.linkAfter(1, 3, 1));
        Checks.throwsIndex("linkAfter link 0", () -> x.linkAfter(0, 0, 1));
        Checks.throwsIndex("linkAfter link 3", () -> x.linkAfter(3, 0, 1));
        x.setMode(2);
        Checks.throwsArgument("also if it is so now", () -> x.ticksToBalance(1001));
    }
}
