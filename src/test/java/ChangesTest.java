/** Promises 24 to 28: run, setMode, reset, nudge, setForce; with what a tick and a step do. */
public final class ChangesTest {
    public static void main(String[] args) {
        oneStep();
        stepsCutEachQuotient();
        quotientsOf4096();
        anglesWrap();
        coupling();
        railEnds();
        modesInATick();
        chatter();
        chatterWindow();
        lock();
        stoppedTicks();
        runLimits();
        setModes();
        resets();
        nudges();
        forces();
        exceptionsChangeNothing();
        Checks.finish();
    }

    private static void oneStep() {
        // sine(1024) is 4096, so that gravity adds 40 and 60; they pull apart by 10 * sine(0) / 4096.
        CountedPendulum x = new CountedPendulum();
        x.reset(1024, 1024);
        x.run(1);
        Plants.moved("level", x, 0, 0, 1026, 40, 1027, 60);
        // Damping: 8 * 400 / 4096 is 0, 8 * 500 * 2 / 4096 is 1, and so for speeds below 0.
        CountedPendulum y = Plants.plant("gravity 0 0; couple 0; damping 8 400;");
        y.reset(0, 0);
        y.nudge(1, 500);
        y.nudge(2, -500);
        y.run(1);
        Plants.moved("damped", y, 0, 0, 31, 500, 4068, -452);
        y.nudge(1, 500);
        y.run(1);
        Plants.moved("damped", y, 0, 0, 31 + 62, 999, 4068 - 25, -408);
        // A push of 60 with cosines of -4096 adds 60 and 120; the cart goes by 60 / 8.
        CountedPendulum z = Plants.plant("push 1 2 60; damping 0 0;");
        z.setMode(1);
        z.run(1);
        Plants.moved("pushed", z, 7, 60, 2048 + 3, 60, 2048 + 7, 120);
    }

    private static void stepsCutEachQuotient() {
        // 1 * sine(100) = 632 is less than 4096, and so is its negative: both are cut to 0.
        CountedPendulum x = Plants.plant("gravity 1 1; damping 0 0; couple 1;");
        x.reset(100, 3996);
        x.run(1);
        Plants.moved("cut", x, 0, 0, 100, 0, 3996, 0);
        // g * sine and c * u * cosine are put together before they are cut: 3 * 2891 - 2 * 2891 is less than 4096.
        CountedPendulum y = Plants.plant("gravity 3 0; push 2 0 1; damping 0 0; couple 0; gains 0 0 0 0 0 0;");
        y.reset(512, 0);
        y.setMode(1);
        Checks.due("push", y.push(), 1);
        y.run(1);
        Plants.moved("together", y, 0, 1, 512, 0, 0, 0);
        // -15 / 16 is 0, and so is 15 / 16; 7 / 8 is 0.
        CountedPendulum z = Plants.plant("gravity 0 0; damping 0 0; couple 0; push 0 0 7;");
        z.reset(1024, 1024);
        z.nudge(1, 15);
        z.nudge(2, -15);
        z.setMode(1);
        z.run(1);
        Plants.moved("small", z, 0, 7, 1024, 15, 1024, -15);
        z.run(1);
        Plants.moved("small", z, 1, 14, 1024, 15, 1024, -15);
        z.nudge(1, 1);
        z.nudge(2, -1);
        z.run(1);
        Plants.moved("just a part", z, 3, 21, 1025, 16, 1023, -16);
    }

    private static void quotientsOf4096() {
        // 64 * 64 is a whole part, 63 * 65 is 1 too little for it.
        CountedPendulum x = Plants.plant("gravity 0 0; damping 64 63; couple 0;");
        x.reset(0, 0);
        x.nudge(1, 64);
        x.nudge(2, 65);
        x.run(1);
        Plants.moved("damped", x, 0, 0, 3, 63, 4, 65);
        // So is sine(1024), but not sine(1023).
        CountedPendulum y = Plants.plant("gravity 1 1; damping 0 0; couple 0;");
        y.reset(1024, 1023);
        y.run(1);
        Plants.moved("pulled", y, 0, 0, 1024, 1, 1023, 0);
        for (int apart = 1023; apart <= 1024; apart++) {
            CountedPendulum z = Plants.plant("gravity 0 0; damping 0 0; couple 1;");
            z.reset(apart, 0);
            z.run(1);
            int s = apart == 1024 ? 1 : 0;
            Plants.moved("coupled", z, 0, 0, apart, -s, 0, s);
        }
        // And a push of 1 by the cosine: 4096 upright, 4095 at 1.
        CountedPendulum q = Plants.plant("gravity 0 0; damping 0 0; couple 0; push 1 1 1; region 1 1 0 1; gains 64 0 0 0 0 0;");
        q.reset(1, 0);
        q.setMode(2);
        Checks.due("push", q.push(), 1);
        q.run(1);
        Plants.moved("pushed", q, 0, 1, 1, 0, 0, -1);
    }

    private static void anglesWrap() {
        CountedPendulum x = Plants.plant("gravity 0 0; damping 0 0; couple 0;");
        x.reset(4095, 0);
        x.nudge(1, 16);
        x.nudge(2, -16);
        x.run(1);
        Plants.moved("over the top", x, 0, 0, 0, 16, 4095, -16);
    }

    private static void coupling() {
        // s is couple * sine(a1 - a2) / 4096: link 1 loses it, link 2 gains it.
        CountedPendulum x = Plants.plant("gravity 0 0; damping 0 0; couple 200;");
        x.reset(1024, 0);
        x.run(1);
        Plants.moved("ahead", x, 0, 0, 1024 - 12, -200, 12, 200);
        x.reset(0, 1024);
        x.run(1);
        Plants.moved("behind", x, 0, 0, 12, 200, 1012, -200);
        x.reset(0, 3584);
        x.run(1);
        // 200 * 2891 / 4096 is 141.
        Plants.moved("a part", x, 0, 0, 4096 - 8, -141, 3584 + 8, 141);
    }

    private static void railEnds() {
        String text = "gravity 0 0; damping 0 0; couple 0; push 0 0 80; gains 99 0 99 0 0 0; region 1 1 0 1; rail ";
        CountedPendulum right = Plants.plant(text + "10;");
        right.setMode(1);
        Checks.due("just at the end", right.run(1), 1);
        Checks.due("x", right.state(2), 10);
        Checks.due("v", right.state(3), 80);
        Checks.due("beyond", right.run(1), 3);
        Checks.due("x", right.state(2), 10);
        Checks.due("v", right.state(3), 0);
        Checks.due("reason", right.stopReason(), 1);
        CountedPendulum left = Plants.plant(text + "10;");
        left.reset(4000, 4000);
        left.setMode(2);
        Checks.due("push to the left", left.push(), -80);
        Checks.due("just at the end", left.run(1), 2);
        Checks.due("x", left.state(2), -10);
        Checks.due("beyond", left.run(1), 3);
        Checks.due("x", left.state(2), -10);
        Checks.due("v", left.state(3), 0);
        Checks.due("reason", left.stopReason(), 1);
    }

    private static void modesInATick() {
        CountedPendulum x = new CountedPendulum();
        x.reset(60, 20);
        x.run(1);
        Checks.due("idle stays idle", x.state(1), 0);
        // The limit is looked at before the step, at both links.
        CountedPendulum y = Plants.plant("gravity 0 0; damping 0 0; push 0 0 1; couple 0; limit 100 9999;");
        for (int lean : new int[] {100, -100}) {
            y.reset(lean & 4095, 0);
            y.setMode(2);
            Checks.due("just the limit", y.run(1), 2);
            y.reset(0, lean & 4095);
            y.setMode(2);
            Checks.due("just the limit", y.run(1), 2);
        }
        Checks.due("no switch", y.state(6), 0);
        for (int lean : new int[] {101, -101}) {
            y.reset(lean & 4095, 0);
            y.setMode(2);
            Checks.due("beyond the limit", y.run(1), 1);
            y.reset(0, lean & 4095);
            y.setMode(2);
            Checks.due("beyond the limit", y.run(1), 1);
        }
        Checks.due("switches", y.state(6), 4);
        y.reset(100, 0);
        y.nudge(1, 160);
        y.setMode(2);
        Checks.due("the step comes later", y.run(1), 2);
        Checks.due("and is seen by the next tick", y.run(1), 1);
        // A capture uses the balancing push in its own tick, and a switch back the swing-up's.
        CountedPendulum z = Plants.plant("gravity 0 0; damping 0 0; push 0 0 60; couple 0; limit 100 9999;");
        z.reset(60, 20);
        z.setMode(1);
        z.run(1);
        Checks.due("v by (240 + 80) / 64", z.state(3), 5);
        z.reset(101, 0);
        z.setMode(2);
        z.run(1);
        Checks.due("v by force", z.state(3), 60);
    }

    /** Lean 30 is in the verified cell (0, 0) of this region and beyond its limit: it switches in every tick. */
    private static CountedPendulum flickering(String numbers) {
        CountedPendulum x = Plants.plant("gravity 0 0; damping 0 0; push 0 0 8; couple 0; gains 0 0 0 0 0 0; rail 9999;"
                + "region 100 100 0 1; limit 20 9999; chatter " + numbers + ";");
        x.reset(30, 30);
        x.setMode(1);
        return x;
    }

    private static void chatter() {
        CountedPendulum x = flickering("3 10 4");
        int[] modes = {2, 1, 2, 1, 1, 1, 1, 1, 1, 1, 1};
        int[] locks = {0, 0, 0, 4, 3, 2, 1, 4, 3, 2, 1};
        int[] switches = {1, 2, 3, 4, 4, 4, 4, 5, 5, 5, 5};
        for (int k = 0; k < modes.length; k++) {
            Checks.due("mode in tick " + (k + 1), x.run(1), modes[k]);
            Checks.due("lock in tick " + (k + 1), x.state(4), locks[k]);
            Checks.due("switches in tick " + (k + 1), x.state(6), switches[k]);
        }
        // In tick 12, the switches of ticks 3, 4, 8 and 12 are the latest: a capture, but given up at once.
        x.run(1);
        Checks.due("mode in tick 12", x.state(1), 1);
        Checks.due("lock in tick 12", x.state(4), 4);
        Checks.due("v: by force, but for the two ticks in balance", x.state(3), 10 * 8);
        // In tick 16, only those of ticks 8, 12 and 16.
        Checks.due("mode in tick 16", x.run(4), 2);
        Checks.due("lock in tick 16", x.state(4), 0);
        Checks.due("mode in tick 17", x.run(1), 1);
        Checks.due("lock in tick 17: ticks 8, 12, 16 and 17", x.state(4), 4);
    }

    private static void chatterWindow() {
        CountedPendulum one = flickering("1 1 9");
        one.run(50);
        Checks.due("one in a window of one", one.state(6), 50);
        Checks.due("one in a window of one", one.state(4), 0);
        CountedPendulum two = flickering("1 2 9");
        two.run(2);
        Checks.due("two in a window of two", two.state(6), 2);
        Checks.due("two in a window of two", two.state(4), 9);
        CountedPendulum many = flickering("20 200 999");
        many.run(20);
        Checks.due("twenty", many.state(4), 0);
        many.run(1);
        Checks.due("one above twenty", many.state(4), 999);
        Checks.due("one above twenty", many.state(1), 1);
        // A switch on the edge of a window of 200.
        CountedPendulum far = flickering("1 200 5");
        far.run(1);
        far.setMode(0);
        far.run(198);
        far.setMode(1);
        far.run(1);
        Checks.due("tick 1 and tick 200", far.state(4), 5);
        CountedPendulum farther = flickering("1 200 5");
        farther.run(1);
        farther.setMode(0);
        farther.run(199);
        farther.setMode(1);
        farther.run(1);
        Checks.due("tick 1 and tick 201", farther.state(4), 0);
        Checks.due("tick 1 and tick 201", farther.state(1), 2);
        CountedPendulum none = flickering("1 5 0");
        none.run(2);
        Checks.due("hold 0", none.state(4), 0);
        Checks.due("hold 0", none.state(1), 1);
        none.run(1);
        Checks.due("captured and given up", none.state(1), 1);
        Checks.due("captured and given up", none.state(6), 3);
    }

    private static void lock() {
        CountedPendulum x = flickering("1 5 3");
        x.run(2);
        Checks.due("lock", x.state(4), 3);
        x.setMode(0);
        x.run(1);
        Checks.due("it decreases in mode 0", x.state(4), 2);
        x.setMode(2);
        Checks.due("it does not keep balance from being given up", x.run(1), 1);
        Checks.due("that is a switch, and the third in 5 ticks", x.state(4), 3);
        x.setMode(0);
        x.setMode(1);
        Checks.due("setMode leaves it", x.state(4), 3);
        x.reset(30, 30);
        Checks.due("a reset ends it", x.state(4), 0);
    }

    private static void stoppedTicks() {
        CountedPendulum x = Plants.plant("gravity 0 0; damping 0 0; push 0 0 8; couple 0; gains 0 0 0 0 0 0; rail 9999;"
                + "region 100 100 0 1; limit 20 700; chatter 1 9 50;");
        x.reset(30, 30);
        x.setMode(1);
        x.run(2);
        Checks.due("lock", x.state(4), 50);
        x.nudge(1, 500);
        x.nudge(1, 201);
        Checks.due("stopped", x.run(1), 3);
        Checks.due("lock in the tick of the stop", x.state(4), 49);
        Checks.due("stopped", x.run(10), 3);
        Checks.due("the lock stands still", x.state(4), 49);
        Checks.due("the tick does not", x.state(0), 13);
        Plants.moved("all stands still", x, x.state(2), x.state(3), 30 + 43, 701, 30, 0);
        Checks.due("one stop", x.state(7), 1);
        Checks.due("a stop is no switch", x.state(6), 2);
    }

    private static void runLimits() {
        CountedPendulum x = new CountedPendulum();
        for (int wrong : new int[] {0, -1, 1001, Integer.MIN_VALUE, Integer.MAX_VALUE}) {
            Checks.throwsArgument("run " + wrong, () -> x.run(wrong));
        }
        for (int k = 1; k <= 9; k++) {
            Checks.due("run", x.run(1000), 0);
            Checks.due("tick", x.state(0), 1000 * k);
        }
        Checks.throwsState("10000 ticks", () -> x.run(1000));
        Checks.due("tick", x.state(0), 9000);
        Checks.due("9999 ticks", x.run(999), 0);
        Checks.due("tick", x.state(0), 9999);
        Checks.throwsState("one more", () -> x.run(1));
        Checks.throwsArgument("range is checked first", () -> x.run(1001));
        Checks.throwsArgument("range is checked first", () -> x.run(0));
        x.reset(1, 1);
        Checks.throwsState("a reset leaves the tick", () -> x.run(1));
        x.undo();
        x.undo();
        Checks.due("after an undo", x.run(999), 0);
    }

    private static void setModes() {
        CountedPendulum x = new CountedPendulum();
        Checks.due("0 to 1", x.setMode(1), 0);
        Checks.due("1 to 2", x.setMode(2), 1);
        Checks.due("2 to 2", x.setMode(2), 2);
        Checks.due("2 to 0", x.setMode(0), 2);
        Checks.due("mode", x.state(1), 0);
        Checks.due("no switches", x.state(6), 0);
        Checks.due("no switches", x.switchesIn(200), 0);
        for (int wrong : new int[] {-1, 3, Integer.MIN_VALUE, Integer.MAX_VALUE}) {
            Checks.throwsArgument("setMode " + wrong, () -> x.setMode(wrong));
        }
        CountedPendulum y = stopped();
        for (int mode = 0; mode <= 2; mode++) {
            int to = mode;
            Checks.throwsState("stopped", () -> y.setMode(to));
        }
        Checks.throwsArgument("range is checked first", () -> y.setMode(3));
        Checks.throwsArgument("range is checked first", () -> y.setMode(-1));
        y.reset(0, 0);
        Checks.due("after a reset", y.setMode(1), 0);
    }

    private static CountedPendulum stopped() {
        CountedPendulum x = Plants.plant("limit 512 9;");
        x.nudge(1, 100);
        Checks.due("stopped", x.run(1), 3);
        return x;
    }

    private static void resets() {
        CountedPendulum x = flickering("1 5 30");
        x.run(5);
        x.nudge(1, 7);
        x.nudge(2, 8);
        Checks.due("reset", x.reset(0, 4095), 1);
        Plants.moved("reset", x, 0, 0, 0, 0, 4095, 0);
        int[] want = {5, 0, 0, 0, 0, 8, 2, 0, 2};
        for (int what = 0; what <= 8; what++) {
            Checks.due("state " + what, x.state(what), want[what]);
        }
        x.setForce(9);
        x.setMode(2);
        Checks.due("reset", x.reset(4095, 0), 2);
        Checks.due("the force stays", x.state(5), 9);
        Checks.due("reset", x.reset(1, 1), 0);
        Checks.due("resets", x.state(8), 4);
        CountedPendulum y = stopped();
        Checks.due("reset of a stop", y.reset(7, 8), 3);
        Checks.due("mode", y.state(1), 0);
        Checks.due("stops", y.state(7), 1);
        Checks.due("stopReason", y.stopReason(), 2);
        for (int wrong : new int[] {-1, 4096, Integer.MIN_VALUE, Integer.MAX_VALUE}) {
            Checks.throwsArgument("reset " + wrong, () -> y.reset(wrong, 0));
            Checks.throwsArgument("reset " + wrong, () -> y.reset(0, wrong));
        }
    }

    private static void nudges() {
        CountedPendulum x = Plants.plant("limit 512 9999;");
        Checks.due("nudge", x.nudge(1, 500), 500);
        Checks.due("nudge", x.nudge(1, -500), 0);
        Checks.due("nudge", x.nudge(2, -500), -500);
        Checks.due("nudge", x.nudge(2, 0), -500);
        Checks.due("only one link", x.link(1, 1), 0);
        Checks.due("only one link", x.link(2, 1), -500);
        for (int k = 0; k < 19; k++) {
            x.nudge(1, 500);
            x.nudge(2, -500 + (k == 0 ? 500 : 0));
        }
        Checks.due("speed 1", x.link(1, 1), 9500);
        Checks.due("speed 2", x.link(2, 1), -9500);
        Checks.throwsState("too fast", () -> x.nudge(1, 500));
        Checks.throwsState("too fast backwards", () -> x.nudge(2, -500));
        Checks.due("just not", x.nudge(1, 499), 9999);
        Checks.due("just not", x.nudge(2, -499), -9999);
        Checks.throwsState("too fast", () -> x.nudge(1, 1));
        Checks.throwsState("too fast backwards", () -> x.nudge(2, -1));
        Checks.due("nothing more", x.nudge(1, 0), 9999);
        for (int wrong : new int[] {-501, 501, Integer.MIN_VALUE, Integer.MAX_VALUE}) {
            Checks.throwsArgument("nudge " + wrong, () -> x.nudge(1, wrong));
            Checks.throwsArgument("range is checked before speed", () -> x.nudge(2, wrong));
        }
        for (int link : new int[] {0, 3, -1, Integer.MIN_VALUE, Integer.MAX_VALUE}) {
            Checks.throwsIndex("link " + link, () -> x.nudge(link, 1));
            Checks.throwsIndex("link is checked first", () -> x.nudge(link, 501));
        }
        CountedPendulum y = stopped();
        Checks.throwsState("stopped", () -> y.nudge(1, 1));
        Checks.throwsState("stopped", () -> y.nudge(2, 0));
        Checks.throwsArgument("range is checked before mode", () -> y.nudge(1, 501));
        Checks.throwsIndex("link is checked before mode", () -> y.nudge(3, 1));
    }

    private static void forces() {
        CountedPendulum x = new CountedPendulum();
        Checks.due("setForce as it is", x.setForce(60), x.regionSize());
        Checks.due("setForce 1", x.setForce(1), x.regionSize());
        Checks.due("force", x.state(5), 1);
        Checks.due("setForce 500", x.setForce(500), x.regionSize());
        Checks.due("force", x.state(5), 500);
        for (int force : new int[] {1, 2, 5, 20, 99, 500}) {
            CountedPendulum y = Plants.plant("push 1 1 " + force + ";");
            Checks.due("as a plant with that force", x.setForce(force), y.regionSize());
            for (int i = -2; i <= 2; i++) {
                for (int j = -2; j <= 2; j++) {
                    Checks.due("reason", x.reason(i, j), y.reason(i, j));
                    Checks.due("failedStep", x.failedStep(i, j), y.failedStep(i, j));
                }
            }
        }
        for (int wrong : new int[] {0, 501, -1, Integer.MIN_VALUE, Integer.MAX_VALUE}) {
            Checks.throwsArgument("setForce " + wrong, () -> x.setForce(wrong));
        }
        CountedPendulum z = stopped();
        Checks.due("also when stopped", z.setForce(3), z.regionSize());
        Checks.due("also when stopped", z.state(5), 3);
    }

    private static void exceptionsChangeNothing() {
        CountedPendulum x = stopped();
        x.setForce(30);
        String before = Plants.shown(x);
        Checks.throwsArgument("run", () -> x.run(0));
        Checks.throwsArgument("setMode", () -> x.setMode(3));
        Checks.throwsState("setMode", () -> x.setMode(1));
        Checks.throwsArgument("reset", () -> x.reset(1, 4096));
        Checks.throwsIndex("nudge", () -> x.nudge(0, 1));
        Checks.throwsArgument("nudge", () -> x.nudge(1, 501));
        Checks.throwsState("nudge", () -> x.nudge(1, 1));
        Checks.throwsArgument("setForce", () -> x.setForce(501));
        Checks.throwsIndex("saveSnapshot", () -> x.saveSnapshot(2));
        Checks.throwsIndex("restoreSnapshot", () -> x.restoreSnapshot(2));
        Checks.throwsState("restoreSnapshot", () -> x.restoreSnapshot(0));
        Checks.sameText("nothing changed", Plants.shown(x), before);
        Checks.due("no changes to undo but the three", x.undo(), 2);
        CountedPendulum y = Plants.plant("limit 512 9999;");
        for (int k = 0; k < 19; k++) {
            y.nudge(1, 500);
        }
        before = Plants.shown(y);
        Checks.throwsState("nudge", () -> y.nudge(1, 500));
        Checks.sameText("nothing changed", Plants.shown(y), before);
        y.undo();
        Checks.due("the latest change was a nudge", y.link(1, 1), 9000);
    }
}
