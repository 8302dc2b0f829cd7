/** What ANGLES, STATE, ONE STEP and promises 5 to 13 say of boundaries: a test for each sentence, on both sides. */
public final class StateEdgesTest {
    // Nothing moves a link but its own speed, and nothing pushes the cart but the swing-up.
    private static final String FREE = "gravity 0 0; damping 0 0; couple 0; gains 0 0 0 0 0 0; limit 2000 9999; rail 9999; ";
    private static final int[] FAR_OUT = {Integer.MIN_VALUE, Integer.MAX_VALUE};

    public static void main(String[] args) {
        anglesOfSine();
        anglesOfLean();
        sineOfEachHalf();
        leanOfEachHalf();
        cosineWrapsAround();
        atFirst();
        partsOfTheState();
        partsOfALink();
        linksOfEnergyAndTarget();
        energyWithEnoughDigits();
        energyIsCut();
        swingPushAroundNoSpeed();
        swingPushAroundTheTarget();
        balancingPushAtTheForce();
        balancingPushIsCut();
        balancingPushOfTheCart();
        pushOfThePresentMode();
        noPush();
        stopReasonOfTheLatest();
        ticksOfSwitchesIn();
        howLongASwitchCounts();
        couplingIsCut();
        couplingWrapsAround();
        gravityIsCut();
        pushOnTheLinksIsCut();
        dampingIsCut();
        gravityAndPushAreCutTogether();
        cartIsCut();
        turningIsCut();
        anglesWrapAround();
        allAtOnce();
        railEnds();
        shortestAndLongestRail();
        velocityAtARailEnd();
        overspeedOfEachLink();
        overspeedOfTheNewSpeed();
        railEndBeforeOverspeed();
        Checks.finish();
    }

    /** Promise 5: "angle: 0 to 4095". */
    private static void anglesOfSine() {
        CountedPendulum x = new CountedPendulum();
        Checks.throwsArgument("sine -1", () -> x.sine(-1));
        Checks.due("sine 0", x.sine(0), 0);
        Checks.due("sine 4095", x.sine(4095), -6);
        Checks.throwsArgument("sine 4096", () -> x.sine(4096));
        for (int angle : FAR_OUT) {
            Checks.throwsArgument("sine " + angle, () -> x.sine(angle));
        }
    }

    /** Promise 6: "angle: 0 to 4095". */
    private static void anglesOfLean() {
        CountedPendulum x = new CountedPendulum();
        Checks.throwsArgument("lean -1", () -> x.lean(-1));
        Checks.due("lean 0", x.lean(0), 0);
        Checks.due("lean 4095", x.lean(4095), -1);
        Checks.throwsArgument("lean 4096", () -> x.lean(4096));
        for (int angle : FAR_OUT) {
            Checks.throwsArgument("lean " + angle, () -> x.lean(angle));
        }
    }

    /** "The sine of an angle a below 2048 is ..; that of another angle is minus the sine of a - 2048." */
    private static void sineOfEachHalf() {
        CountedPendulum x = new CountedPendulum();
        int[] angles = {0, 1, 1023, 1024, 1025, 2046, 2047, 2048, 2049, 2050, 3071, 3072, 3073, 4094, 4095};
        int[] sines = {0, 6, 4095, 4096, 4095, 12, 6, 0, -6, -12, -4095, -4096, -4095, -12, -6};
        for (int k = 0; k < angles.length; k++) {
            Checks.due("sine " + angles[k], x.sine(angles[k]), sines[k]);
        }
    }

    /** "The lean of an angle a is a if it is less than 2048, otherwise a - 4096." */
    private static void leanOfEachHalf() {
        CountedPendulum x = new CountedPendulum();
        int[] angles = {0, 1, 2046, 2047, 2048, 2049, 4094, 4095};
        int[] leans = {0, 1, 2046, 2047, -2048, -2047, -2, -1};
        for (int k = 0; k < angles.length; k++) {
            Checks.due("lean " + angles[k], x.lean(angles[k]), leans[k]);
            x.reset(angles[k], 0);
            Checks.due("lean of link 1 at " + angles[k], x.link(1, 2), leans[k]);
            Checks.due("lean of link 2 at 0", x.link(2, 2), 0);
            x.reset(0, angles[k]);
            Checks.due("lean of link 1 at 0", x.link(1, 2), 0);
            Checks.due("lean of link 2 at " + angles[k], x.link(2, 2), leans[k]);
        }
    }

    /** "The cosine of a is the sine of (a + 1024) mod 4096." */
    private static void cosineWrapsAround() {
        CountedPendulum x = Plants.plant("gravity 1 200;");
        int[] angles = {0, 1, 1023, 1024, 1025, 2047, 2048, 2049, 3071, 3072, 3073, 4095};
        int[] cosines = {4096, 4095, 6, 0, -6, -4095, -4096, -4095, -6, 0, 6, 4095};
        for (int k = 0; k < angles.length; k++) {
            x.reset(angles[k], angles[k]);
            Checks.due("energy 1 at " + angles[k], x.energy(1), cosines[k] * 10430 / 4096);
            Checks.due("energy 2 at " + angles[k], x.energy(2), 200L * cosines[k] * 10430 / 4096);
        }
    }

    /** "At first x, v, w1 and w2 are 0 and both angles are 2048; the mode is 0, and the lock is 0." "The tick is 0 at first". */
    private static void atFirst() {
        for (CountedPendulum x : new CountedPendulum[] {new CountedPendulum(), Plants.plant("rail 5; gravity 1 1;")}) {
            Plants.moved("at first", x, 0, 0, 2048, 0, 2048, 0);
            int[] state = {0, 0, 0, 0, 0, 60, 0, 0, 0};
            for (int what = 0; what < state.length; what++) {
                Checks.due("at first: state " + what, x.state(what), state[what]);
            }
            Checks.due("at first: stopReason", x.stopReason(), 0);
            Checks.due("at first: switchesIn", x.switchesIn(200), 0);
        }
    }

    /** Promise 7: "what: 0 tick .. 8 resets since the beginning". */
    private static void partsOfTheState() {
        CountedPendulum x = new CountedPendulum();
        x.reset(0, 0);
        x.run(3);
        Checks.throwsArgument("state -1", () -> x.state(-1));
        Checks.due("state 0", x.state(0), 3);
        Checks.due("state 8", x.state(8), 1);
        Checks.throwsArgument("state 9", () -> x.state(9));
        for (int what : FAR_OUT) {
            Checks.throwsArgument("state " + what, () -> x.state(what));
        }
    }

    /** Promise 8: links 1 and 2, which are checked first, and "what: 0 its angle, 1 its speed, 2 its lean". */
    private static void partsOfALink() {
        CountedPendulum x = Plants.at("", 4000, 7, -5, 11);
        int[][] parts = {{4000, -5, -96}, {7, 11, 7}};
        for (int link = 1; link <= 2; link++) {
            int there = link;
            Checks.throwsArgument("link what -1", () -> x.link(there, -1));
            for (int what = 0; what <= 2; what++) {
                Checks.due("link " + link + " " + what, x.link(link, what), parts[link - 1][what]);
            }
            Checks.throwsArgument("link what 3", () -> x.link(there, 3));
            for (int what : FAR_OUT) {
                Checks.throwsArgument("link what " + what, () -> x.link(there, what));
            }
        }
        for (int link : new int[] {0, 3, -1, Integer.MIN_VALUE, Integer.MAX_VALUE}) {
            for (int what : new int[] {-1, 0, 2, 3}) {
                Checks.throwsIndex("link " + link + " " + what, () -> x.link(link, what));
            }
        }
    }

    /** Promises 9 and 10: "IndexOutOfBoundsException if there is no such link". */
    private static void linksOfEnergyAndTarget() {
        CountedPendulum x = Plants.plant("gravity 3 5;");
        Checks.due("energy 1", x.energy(1), -31290);
        Checks.due("energy 2", x.energy(2), -52150);
        Checks.due("target 1", x.target(1), 31290);
        Checks.due("target 2", x.target(2), 52150);
        for (int link : new int[] {0, 3, -1, Integer.MIN_VALUE, Integer.MAX_VALUE}) {
            Checks.throwsIndex("energy " + link, () -> x.energy(link));
            Checks.throwsIndex("target " + link, () -> x.target(link));
        }
    }

    /** "All this is computed with enough digits": 200 * 4096 * 10430 is more than an int holds. */
    private static void energyWithEnoughDigits() {
        String heavy = "gravity 200 200; damping 0 0; couple 0; limit 2000 9999;";
        CountedPendulum up = Plants.at(heavy, 0, 0, 9999, -9999);
        Checks.due("upright", up.energy(1), 49990000L + 2086000L);
        Checks.due("upright", up.energy(2), 49990000L + 2086000L);
        CountedPendulum down = Plants.at(heavy, 2048, 2048, -9999, 9999);
        Checks.due("hanging", down.energy(1), 49990000L - 2086000L);
        Checks.due("hanging", down.energy(2), 49990000L - 2086000L);
        Checks.due("target", down.target(1), 2086000);
        Checks.due("target", Plants.plant("gravity 0 0;").target(1), 0);
        // The step of an overspeed may add much to the greatest speed that a nudge can make.
        CountedPendulum fast = Plants.at("gravity 200 0; damping 0 0; couple 0; push 9 0 500; gains 64 0 0 0 0 0;"
                + "limit 2000 9999; rail 9999;", 1536, 0, 9999, 0);
        fast.setMode(2);
        Checks.due("push", fast.push(), 500);
        Checks.due("overspeed", fast.run(1), 3);
        Checks.due("speed", fast.link(1, 1), 9999 + (200 * 2891 + 9 * 500 * 2891) / 4096);
        long speed = fast.link(1, 1);
        long cosine = fast.sine((fast.link(1, 0) + 1024) % 4096);
        Checks.due("energy beyond the limit of speed", fast.energy(1), speed * speed / 2 + 200 * cosine * 10430 / 4096);
    }

    /** "/ truncates toward 0": each of the two quotients by itself. */
    private static void energyIsCut() {
        int[] speeds = {0, 1, 2, 3, 4, 5, -1, -2, -3, -5};
        for (int speed : speeds) {
            CountedPendulum x = Plants.at("gravity 0 1;", 0, 1025, speed, speed);
            Checks.due("of speed " + speed, x.energy(1), speed * speed / 2);
            Checks.due("of speed and gravity", x.energy(2), speed * speed / 2 - 15);
        }
    }

    private static int pushInMode(int mode, String text, int a1, int a2, int w1, int w2) {
        CountedPendulum x = Plants.at(text, a1, a2, w1, w2);
        x.setMode(mode);
        return x.push();
    }

    /** "let p be w1 * cosine(a1): if p is 0, the push is force": the least speed and the least cosine beside 0. */
    private static void swingPushAroundNoSpeed() {
        Checks.due("speed -1", pushInMode(1, "", 0, 0, -1, 0), -60);
        Checks.due("speed 0", pushInMode(1, "", 0, 0, 0, 0), 60);
        Checks.due("speed 1", pushInMode(1, "", 0, 0, 1, 0), 60);
        int[] angles = {1023, 1024, 1025, 3071, 3072, 3073};
        int[] pushes = {-60, 60, 60, 60, 60, -60};
        int[] backwards = {60, 60, -60, -60, 60, 60};
        for (int k = 0; k < angles.length; k++) {
            Checks.due("cosine at " + angles[k], pushInMode(1, "", angles[k], 0, 1, 0), pushes[k]);
            Checks.due("cosine at " + angles[k] + " backwards", pushInMode(1, "", angles[k], 0, -1, 0), backwards[k]);
        }
        Checks.due("only link 1 counts", pushInMode(1, "", 0, 2048, 0, 300), 60);
    }

    /** "if the energy of link 1 is less than its target": one less, the target itself, one more. */
    private static void swingPushAroundTheTarget() {
        // At 4095, gravity 1 makes 10427 of 10430; a speed of 2 adds 2 and one of 3 adds 4.
        String light = "gravity 1 200;";
        Checks.due("one less", Plants.at(light, 4095, 0, 2, 0).energy(1), 10429);
        Checks.due("one less", pushInMode(1, light, 4095, 0, 2, 0), -60);
        Checks.due("one less, backwards", pushInMode(1, light, 4095, 0, -2, 0), 60);
        Checks.due("one more", Plants.at(light, 4095, 0, 3, 0).energy(1), 10431);
        Checks.due("one more", pushInMode(1, light, 4095, 0, 3, 0), 60);
        Checks.due("one more, backwards", pushInMode(1, light, 4095, 0, -3, 0), -60);
        Checks.due("the target itself", Plants.at(light, 0, 0, 1, 0).energy(1), 10430);
        Checks.due("the target itself", pushInMode(1, light, 0, 0, 1, 0), 60);
        Checks.due("the target itself, backwards", pushInMode(1, light, 0, 0, -1, 0), -60);
        // Enough digits: 200 * 4096 * 10430 is more than an int holds.
        Checks.due("the greatest target", pushInMode(1, "gravity 200 0;", 0, 0, 1, 0), 60);
        Checks.due("less than the greatest target", pushInMode(1, "gravity 200 0;", 100, 0, 1, 0), -60);
        Checks.due("far less than it", pushInMode(1, "gravity 200 0;", 2048, 0, 1, 0), 60);
    }

    /** "but at most force and at least -force" */
    private static void balancingPushAtTheForce() {
        String text = "gains 64 0 0 0 0 0; push 1 1 10;";
        int[] leans = {9, 10, 11, 2047, -9, -10, -11, -2048};
        int[] pushes = {9, 10, 10, 10, -9, -10, -10, -10};
        for (int k = 0; k < leans.length; k++) {
            Checks.due("push at lean " + leans[k], pushInMode(2, text, leans[k] & 4095, 0, 0, 0), pushes[k]);
        }
        Checks.due("the least force", pushInMode(2, "push 1 1 1;", 100, 100, 0, 0), 1);
        Checks.due("the least force", pushInMode(2, "push 1 1 1;", 4000, 4000, 0, 0), -1);
        String most = "gains 99 99 99 99 99 99; push 1 1 500; limit 2000 9999;";
        Checks.due("the greatest gains and speeds", pushInMode(2, most, 2047, 2047, 9999, 9999), 500);
        Checks.due("the greatest gains and speeds", pushInMode(2, most, 2048, 2048, -9999, -9999), -500);
        Checks.due("against one another", pushInMode(2, most, 2047, 2049, 9999, -9999), 0);
    }

    /** ".. / 64": cut toward 0 on both sides. */
    private static void balancingPushIsCut() {
        int[] sums = {0, 1, 63, 64, 65, 127, 128, -1, -63, -64, -65, -127, -128};
        for (int sum : sums) {
            Checks.due("push of " + sum, pushInMode(2, "gains 1 0 0 0 0 0;", sum & 4095, 0, 0, 0), sum / 64);
            Checks.due("push of " + sum, pushInMode(2, "gains 0 1 0 0 0 0;", 0, 0, sum, 0), sum / 64);
            Checks.due("push of " + sum, pushInMode(2, "gains 0 0 1 0 0 0;", 0, sum & 4095, 0, 0), sum / 64);
            Checks.due("push of " + sum, pushInMode(2, "gains 0 0 0 1 0 0;", 0, 0, 0, sum), sum / 64);
            // The sum is cut, not its parts.
            Checks.due("push of " + sum, pushInMode(2, "gains 1 0 1 0 0 0;", (sum - 9) & 4095, 9, 0, 0), sum / 64);
        }
    }

    /** The same by k5 * x + k6 * v. */
    private static void balancingPushOfTheCart() {
        for (int sign = -1; sign <= 1; sign += 2) {
            for (int velocity : new int[] {63, 64, 65, 127, 128}) {
                CountedPendulum x = pushedOnce("gains 0 0 0 0 0 1;", sign, velocity);
                Checks.due("v", x.state(3), sign * velocity);
                Checks.due("push by v", x.push(), sign * velocity / 64);
            }
            for (int place : new int[] {31, 32, 33, 62}) {
                CountedPendulum x = pushedOnce("gains 0 0 0 0 2 0;", sign, 8 * place);
                Checks.due("x", x.state(2), sign * place);
                Checks.due("push by x", x.push(), sign * 2 * place / 64);
            }
            CountedPendulum y = pushedOnce("gains 0 0 0 0 64 1;", sign, 80);
            Checks.due("push by both", y.push(), sign * (640 + 80) / 64);
        }
    }

    /** A cart that had one push from x and v of 0, with both links upright; in balance then. */
    private static CountedPendulum pushedOnce(String gains, int sign, int force) {
        CountedPendulum x = Plants.at("gravity 0 0; damping 0 0; couple 0; region 1 1 0 1; rail 9999; push 0 0 " + force + ";"
                + gains, 0, 0, sign, 0);
        x.setMode(1);
        x.run(1);
        x.setMode(2);
        return x;
    }

    /** Promise 11: "the push that the next tick would have if it made its step in the present mode and state". */
    private static void pushOfThePresentMode() {
        CountedPendulum x = Plants.at("gravity 0 0; damping 0 0; push 0 0 60; couple 0;", 60, 20, 0, 0);
        x.setMode(1);
        Checks.due("capturable", x.isCapturable(), true);
        Checks.due("but in swing-up still", x.push(), 60);
        x.run(1);
        Checks.due("the tick captured it, and pushed by balance", x.state(3), 5);
        CountedPendulum y = Plants.at("limit 100 1500;", 101, 0, 0, 0);
        y.setMode(2);
        Checks.due("leaning beyond the limit, but in balance still", y.push(), 6);
        y.run(1);
        Checks.due("the tick gave it up, and pushed by force", y.state(3), 60);
    }

    /** "Its push is 0 in mode 0"; promise 11: "0 in mode 3". */
    private static void noPush() {
        CountedPendulum x = Plants.at("rail 6; limit 512 9;", 60, 20, 0, 0);
        Checks.due("idle", x.push(), 0);
        x.setMode(2);
        Checks.due("balance", x.push(), 5);
        x.setMode(1);
        Checks.due("swing-up", x.push(), 60);
        Checks.due("stopped", x.run(1), 3);
        Checks.due("stopped", x.push(), 0);
        x.reset(60, 20);
        Checks.due("idle again", x.push(), 0);
    }

    /** Promise 12: "the reason of the latest stop: 1 rail end, 2 overspeed; 0 if there was none". */
    private static void stopReasonOfTheLatest() {
        CountedPendulum x = Plants.plant("gravity 0 0; damping 0 0; couple 0; push 0 0 8; rail 1; limit 512 9;");
        Checks.due("none", x.stopReason(), 0);
        x.setMode(1);
        x.run(1);
        Checks.due("not yet", x.stopReason(), 0);
        Checks.due("rail end", x.run(1), 3);
        Checks.due("rail end", x.stopReason(), 1);
        x.reset(0, 0);
        Checks.due("a reset leaves it", x.stopReason(), 1);
        x.nudge(2, 10);
        x.run(1);
        Checks.due("overspeed", x.stopReason(), 2);
        x.reset(2048, 2048);
        x.setMode(1);
        x.run(1);
        Checks.due("running again", x.stopReason(), 2);
        x.run(1);
        Checks.due("rail end again", x.stopReason(), 1);
        x.undo();
        Checks.due("undone", x.stopReason(), 2);
    }

    /** Promise 13: "ticks: 1 to 200". */
    private static void ticksOfSwitchesIn() {
        CountedPendulum x = new CountedPendulum();
        Checks.throwsArgument("switchesIn 0", () -> x.switchesIn(0));
        Checks.due("switchesIn 1", x.switchesIn(1), 0);
        Checks.due("switchesIn 200", x.switchesIn(200), 0);
        Checks.throwsArgument("switchesIn 201", () -> x.switchesIn(201));
        Checks.throwsArgument("switchesIn -1", () -> x.switchesIn(-1));
        for (int ticks : FAR_OUT) {
            Checks.throwsArgument("switchesIn " + ticks, () -> x.switchesIn(ticks));
        }
    }

    /** "the number of switches in the latest ticks": a single switch, seen from each of the ticks behind it. */
    private static void howLongASwitchCounts() {
        for (int first = 1; first <= 211; first += 70) {
            CountedPendulum x = Plants.at(FREE, 0, 0, 0, 0);
            x.setMode(1);
            x.run(first);
            Checks.due("captured in the first tick", x.state(6), 1);
            for (int since = first; since < first + 70; since++) {
                if (since > 1) {
                    Checks.due("too long ago for " + (since - 1), x.switchesIn(Math.min(since - 1, 200)), 0);
                }
                if (since <= 200) {
                    Checks.due("within " + since, x.switchesIn(since), 1);
                    Checks.due("within more", x.switchesIn(200), 1);
                }
                x.run(1);
            }
        }
        CountedPendulum y = Plants.at(FREE, 0, 0, 0, 0);
        y.setMode(1);
        y.run(1);
        y.setMode(0);
        y.run(100);
        y.reset(0, 0);
        y.setMode(1);
        y.run(1);
        Checks.due("the later one alone", y.switchesIn(101), 1);
        Checks.due("both", y.switchesIn(102), 2);
    }

    private static void oneStep(String what, String text, int[] before, int... want) {
        CountedPendulum x = Plants.at(text, before[0], before[1], before[2], before[3]);
        Checks.due(what, x.run(1), 0);
        Plants.moved(what, x, want);
    }

    /** "s be couple * sine(..) / 4096": 4095 is cut to 0 on both sides, 4096 is a whole. */
    private static void couplingIsCut() {
        String text = "gravity 0 0; damping 0 0; couple 1; limit 2000 9999;";
        oneStep("4095", text, new int[] {1023, 0, 0, 0}, 0, 0, 1023, 0, 0, 0);
        oneStep("4096", text, new int[] {1024, 0, 0, 0}, 0, 0, 1024, -1, 0, 1);
        oneStep("4095", text, new int[] {1025, 0, 0, 0}, 0, 0, 1025, 0, 0, 0);
        oneStep("-4095", text, new int[] {3071, 0, 0, 0}, 0, 0, 3071, 0, 0, 0);
        oneStep("-4096", text, new int[] {3072, 0, 0, 0}, 0, 0, 3072, 1, 0, -1);
        oneStep("-4095", text, new int[] {3073, 0, 0, 0}, 0, 0, 3073, 0, 0, 0);
    }

    /** "sine((a1 - a2) mod 4096)": a difference below 0. */
    private static void couplingWrapsAround() {
        String text = "gravity 0 0; damping 0 0; couple 200; limit 2000 9999;";
        oneStep("no difference", text, new int[] {4095, 4095, 0, 0}, 0, 0, 4095, 0, 4095, 0);
        oneStep("-1: 200 * -6", text, new int[] {0, 1, 0, 0}, 0, 0, 0, 0, 1, 0);
        oneStep("-1024", text, new int[] {0, 1024, 0, 0}, 0, 0, 12, 200, 1012, -200);
        oneStep("-2048", text, new int[] {0, 2048, 0, 0}, 0, 0, 0, 0, 2048, 0);
        oneStep("-3072", text, new int[] {0, 3072, 0, 0}, 0, 0, 4084, -200, 3084, 200);
        oneStep("-4095: 200 * 6", text, new int[] {0, 4095, 0, 0}, 0, 0, 0, 0, 4095, 0);
        oneStep("-4032: 200 * 399 / 4096", text, new int[] {63, 4095, 0, 0}, 0, 0, 62, -19, 0, 19);
    }

    /** "(g1 * sine(a1) ..) / 4096" */
    private static void gravityIsCut() {
        String text = "gravity 1 1; damping 0 0; couple 0; limit 2000 9999;";
        oneStep("4096 and 4095", text, new int[] {1024, 1023, 0, 0}, 0, 0, 1024, 1, 1023, 0);
        oneStep("4095 and 4096", text, new int[] {1025, 1024, 0, 0}, 0, 0, 1025, 0, 1024, 1);
        oneStep("-4096 and -4095", text, new int[] {3072, 3071, 0, 0}, 0, 0, 3072, -1, 3071, 0);
        oneStep("-4095 and -4096", text, new int[] {3073, 3072, 0, 0}, 0, 0, 3073, 0, 3072, -1);
        String heavy = "gravity 200 199; damping 0 0; couple 0; limit 2000 9999;";
        oneStep("the greatest", heavy, new int[] {1024, 3072, 0, 0}, 0, 0, 1024 + 12, 200, 3072 - 12, -199);
    }

    /** ".. - c1 * u * cosine(a1)) / 4096": by a push of 1. */
    private static void pushOnTheLinksIsCut() {
        String text = "gravity 0 0; damping 0 0; couple 0; push 1 1 1; limit 2000 9999; region 1 1 0 1;";
        int[] angles = {0, 1, 1024, 2047, 2048, 2049, 4095};
        int[] gains = {-1, 0, 0, 0, 1, 0, 0};
        for (int k = 0; k < angles.length; k++) {
            CountedPendulum x = Plants.at(text, angles[k], angles[angles.length - 1 - k], 0, 0);
            x.setMode(1);
            x.run(1);
            Plants.moved("pushed at " + angles[k], x, 0, 1, angles[k], gains[k],
                    angles[angles.length - 1 - k], gains[angles.length - 1 - k]);
        }
        CountedPendulum y = Plants.at("gravity 0 0; damping 0 0; couple 0; push 9 8 500; limit 2000 9999;", 0, 2048, 0, 0);
        y.setMode(1);
        y.run(1);
        Plants.moved("the greatest", y, 62, 500, 4096 - 281, -4500, 2048 + 250, 4000);
    }

    /** ".. - d1 * w1 / 4096" */
    private static void dampingIsCut() {
        String text = "gravity 0 0; damping 1 1; couple 0; limit 2000 9999;";
        oneStep("4095 and 4096", text, new int[] {0, 0, 4095, 4096}, 0, 0, 255, 4095, 255, 4095);
        oneStep("-4095 and -4096", text, new int[] {0, 0, -4095, -4096}, 0, 0, 4096 - 255, -4095, 4096 - 255, -4095);
        oneStep("8191 and 8192", text, new int[] {0, 0, 8191, 8192}, 0, 0, 8190 / 16, 8190, 8190 / 16, 8190);
        String most = "gravity 0 0; damping 400 399; couple 0; limit 2000 9999;";
        oneStep("the greatest", most, new int[] {0, 0, 9999, -9999}, 0, 0, 9023 / 16, 9023, 4096 - 9025 / 16, -9025);
    }

    /** The sum of gravity and push is cut, not each of them; damping and coupling are cut by themselves. */
    private static void gravityAndPushAreCutTogether() {
        // At 512, sine and cosine are 2891, and so 1 * 2891 + 1 * 2891 is more than a whole at 3584, and 0 at 512.
        String text = "gravity 1 1; damping 0 0; couple 0; push 1 1 1; limit 2000 9999; region 1 1 0 1;";
        CountedPendulum x = Plants.at(text, 512, 1536, 0, 0);
        x.setMode(1);
        x.run(1);
        Plants.moved("0 and 5782", x, 0, 1, 512, 0, 1536, 1);
        // Half a whole of gravity and half a whole of damping are nothing.
        oneStep("2891 and 2890", "gravity 1 1; damping 1 1; couple 0; limit 2000 9999;", new int[] {512, 3584, -2890, 2890},
                0, 0, 512 - 180, -2890, 3584 + 180, 2890);
    }

    /** "x increases by v / 8", "with the new speeds" */
    private static void cartIsCut() {
        String text = "gravity 0 0; damping 0 0; couple 0; push 0 0 500; gains 64 0 0 0 0 0; limit 2000 9999;";
        int[] velocities = {1, 7, 8, 9, 15, 16, -1, -7, -8, -9, -15, -16};
        for (int velocity : velocities) {
            CountedPendulum x = Plants.at(text, velocity & 4095, 0, 0, 0);
            x.setMode(2);
            x.run(1);
            Plants.moved("velocity " + velocity, x, velocity / 8, velocity, velocity & 4095, 0, 0, 0);
        }
    }

    /** "each angle becomes (ai + wi / 16) mod 4096", "with the new speeds" */
    private static void turningIsCut() {
        int[] speeds = {1, 15, 16, 17, 31, 32, -1, -15, -16, -17, -31, -32, 9999, -9999};
        for (int speed : speeds) {
            oneStep("speed " + speed, FREE, new int[] {1000, 2000, speed, -speed}, 0, 0,
                    1000 + speed / 16, speed, 2000 - speed / 16, -speed);
        }
        // Gravity makes a speed of 16 of one of 15 in this very step.
        oneStep("the new speed", "gravity 1 0; damping 0 0; couple 0;", new int[] {1024, 0, 15, 0}, 0, 0, 1025, 16, 0, 0);
    }

    /** ".. mod 4096": over 4095 and under 0. */
    private static void anglesWrapAround() {
        oneStep("just not over", FREE, new int[] {4094, 1, 16, -16}, 0, 0, 4095, 16, 0, -16);
        oneStep("just over", FREE, new int[] {4095, 0, 16, -16}, 0, 0, 0, 16, 4095, -16);
        oneStep("the other way about", FREE, new int[] {0, 4095, -16, 16}, 0, 0, 4095, -16, 0, 16);
        oneStep("far over", FREE, new int[] {4095, 0, 9999, -9999}, 0, 0, 623, 9999, 3472, -9999);
        oneStep("over the hanging angle, which is no end", FREE, new int[] {2047, 2048, 16, -16}, 0, 0, 2048, 16, 2047, -16);
    }

    /** "From the values as they are before, all at once" */
    private static void allAtOnce() {
        // Both the links' gains come from the angles and speeds before the step: 100 and 100 + 150 by gravity, 100 by coupling.
        oneStep("from before", "gravity 100 150; damping 400 400; couple 100; limit 2000 9999;", new int[] {1024, 0, 400, -400},
                0, 0, 1024 + (400 + 100 - 39 - 100) / 16, 400 + 100 - 39 - 100,
                4096 - (400 - 39 - 100) / 16, -400 + 39 + 100);
    }

    private static CountedPendulum pushed(int rail, int force, int ticks) {
        CountedPendulum x = Plants.plant("gravity 0 0; damping 0 0; couple 0; region 1 1 0 1; push 0 0 " + force
                + "; rail " + rail + ";");
        x.setMode(1);
        x.run(1);
        x.setMode(0);
        if (ticks > 1) {
            x.run(ticks - 1);
        }
        return x;
    }

    /** "if x is above length or below -length, it becomes length or -length" */
    private static void railEnds() {
        CountedPendulum x = pushed(30, 80, 3);
        Plants.moved("just at the end", x, 30, 80, 2048, 0, 2048, 0);
        Checks.due("no stop", x.state(1), 0);
        CountedPendulum y = pushed(29, 80, 3);
        Plants.moved("one beyond", y, 29, 0, 2048, 0, 2048, 0);
        Checks.due("a stop", y.state(1), 3);
        Checks.due("stopReason", y.stopReason(), 1);
        String left = "gravity 0 0; damping 0 0; couple 0; push 0 0 80; gains 64 0 0 0 0 0; limit 2000 9999; rail ";
        for (int rail = 10; rail >= 9; rail--) {
            CountedPendulum z = Plants.at(left + rail + ";", 4096 - 80, 0, 0, 0);
            z.setMode(2);
            Checks.due("to the left by 10 of " + rail, z.run(1), rail == 10 ? 2 : 3);
            Plants.moved("to the left", z, -rail, rail == 10 ? -80 : 0, 4096 - 80, 0, 0, 0);
            Checks.due("stops", z.state(7), rail == 10 ? 0 : 1);
        }
    }

    /** "length 1 to 9999" */
    private static void shortestAndLongestRail() {
        CountedPendulum x = pushed(1, 8, 1);
        Plants.moved("at the end of the shortest", x, 1, 8, 2048, 0, 2048, 0);
        Checks.due("beyond it", x.run(1), 3);
        Checks.due("x", x.state(2), 1);
        CountedPendulum y = pushed(9999, 72, 1000);
        y.run(111);
        Plants.moved("at the end of the longest", y, 9999, 72, 2048, 0, 2048, 0);
        Checks.due("beyond it", y.run(1), 3);
        Plants.moved("stopped there", y, 9999, 0, 2048, 0, 2048, 0);
        CountedPendulum z = pushed(9998, 72, 1000);
        z.run(110);
        Checks.due("nine before", z.state(2), 9990);
        Checks.due("one beyond", z.run(1), 3);
        Checks.due("x", z.state(2), 9998);
    }

    /** "v becomes 0": and nothing else of the step is taken back. */
    private static void velocityAtARailEnd() {
        CountedPendulum x = Plants.at("gravity 1 1; damping 0 0; couple 0; push 0 0 80; rail 9; region 1 1 0 1;", 1024, 3072, 15, -15);
        x.setMode(1);
        Checks.due("stopped", x.run(1), 3);
        Plants.moved("the links have moved", x, 9, 0, 1025, 16, 3071, -16);
    }

    /** "if w1 or w2 is above the speed of limit or below its negative, there is overspeed" */
    private static void overspeedOfEachLink() {
        for (int limit : new int[] {1, 100, 9998}) {
            String limited = FREE.replace("9999; rail", limit + "; rail");
            for (int link = 1; link <= 2; link++) {
                for (int sign = -1; sign <= 1; sign += 2) {
                    CountedPendulum x = Plants.plant(limited);
                    Plants.faster(x, link, sign * limit);
                    Checks.due("just the limit", x.run(1), 0);
                    Checks.due("no stop", x.state(7), 0);
                    x.nudge(link, sign);
                    Checks.due("not by a nudge", x.state(1), 0);
                    Checks.due("one beyond", x.run(1), 3);
                    Checks.due("overspeed", x.stopReason(), 2);
                    Checks.due("the speed stays", x.link(link, 1), sign * (limit + 1));
                }
            }
        }
        CountedPendulum y = Plants.at("gravity 1 0; damping 0 0; couple 0; limit 2000 9999;", 1024, 0, 9998, 0);
        Checks.due("9999 of 9999", y.run(1), 0);
        y.reset(1024, 0);
        Plants.faster(y, 1, 9999);
        Checks.due("10000 of 9999", y.run(1), 3);
        Checks.due("speed", y.link(1, 1), 10000);
    }

    /** "with the new speeds": what the link was before the step does not count. */
    private static void overspeedOfTheNewSpeed() {
        CountedPendulum x = Plants.at("gravity 0 0; damping 400 400; couple 0; limit 512 100;", 0, 0, 110, -110);
        Checks.due("damped to 100", x.run(1), 0);
        Plants.moved("damped", x, 0, 0, 6, 100, 4090, -100);
        CountedPendulum y = Plants.at("gravity 0 0; damping 400 400; couple 0; limit 512 100;", 0, 0, 111, 0);
        Checks.due("damped to 101", y.run(1), 3);
        CountedPendulum z = Plants.at("gravity 0 1; damping 0 0; couple 0; limit 512 100;", 0, 3072, 0, -100);
        Checks.due("pulled to -101", z.run(1), 3);
    }

    /** "and the cart has hit a rail end; otherwise, .. there is overspeed" */
    private static void railEndBeforeOverspeed() {
        for (int rail = 9; rail <= 10; rail++) {
            CountedPendulum x = Plants.at("gravity 0 0; damping 0 0; couple 0; push 0 0 80; limit 512 9; rail " + rail + ";",
                    2048, 2048, -10, 0);
            x.setMode(1);
            Checks.due("stopped", x.run(1), 3);
            Checks.due("stopReason with a rail of " + rail, x.stopReason(), rail == 9 ? 1 : 2);
            Checks.due("one stop", x.state(7), 1);
            Checks.due("v", x.state(3), rail == 9 ? 0 : 80);
        }
    }
}
