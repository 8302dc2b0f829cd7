/** What TICKS and promises 20 to 24 say of boundaries: a test for each sentence, on both sides. */
public final class TicksEdgesTest {
    // Nothing moves a link but its own speed; the cart is pushed in swing-up alone, to the right while link 1 is at rest.
    private static final String FREE = "gravity 0 0; damping 0 0; couple 0; gains 0 0 0 0 0 0; ";
    // Lean 30 is in the verified cell (0, 0) and beyond the limit: a switch in each tick of swing-up or balance.
    private static final String FLICKERING = FREE + "push 0 0 1; rail 9999; region 100 100 0 1; limit 20 9999; chatter ";
    private static final int[] FAR_OUT = {Integer.MIN_VALUE, Integer.MAX_VALUE};

    public static void main(String[] args) {
        tickAtFirstAndAtMost();
        tickAtMostWhileStopped();
        ticksOfRun();
        runIsOneChange();
        nothingElseWhileStopped();
        lockDecreases();
        lockEndsInTheTickOfACapture();
        shortestAndLongestHold();
        lockInEveryMode();
        captureByTheStateBefore();
        captureInSwingUpAlone();
        limitOfLean();
        limitInBalanceAlone();
        oneSwitchATick();
        moreThanSwitches();
        latestWindowTicks();
        chatterIsNoOtherSwitch();
        pushOfTheModeThen();
        stopInATick();
        switchAndStopInATick();
        limitsOfTicksToBalance();
        balanceNowOrWithin();
        balanceAfterTheMost();
        limitsOfTicksToStop();
        stopNowOrWithin();
        stopAfterTheMost();
        ticksOfFarthest();
        farthestNowOrLater();
        argumentsOfLinkAfter();
        ticksOfLinkAfter();
        beyondTheGreatestTick();
        Checks.finish();
    }

    private static CountedPendulum swinging(String text, int lean1, int lean2) {
        CountedPendulum x = Plants.at(text, lean1 & 4095, lean2 & 4095, 0, 0);
        x.setMode(1);
        return x;
    }

    private static CountedPendulum atTick(int tick) {
        CountedPendulum x = new CountedPendulum();
        for (int done = 0; done < tick; done += 1000) {
            x.run(Math.min(1000, tick - done));
        }
        Checks.due("tick", x.state(0), tick);
        return x;
    }

    /** "The tick is 0 at first, at most 9999."; promise 24: "IllegalStateException if the tick would exceed 9999". */
    private static void tickAtFirstAndAtMost() {
        Checks.due("at first", new CountedPendulum().state(0), 0);
        int[] ticks = {8999, 9000, 9998, 9999};
        for (int tick : ticks) {
            int left = 9999 - tick;
            CountedPendulum x = atTick(tick);
            if (left < 1000) {
                Checks.throwsState("run to 10000", () -> x.run(left + 1));
                Checks.throwsState("run far beyond", () -> x.run(1000));
                Checks.due("tick stays", x.state(0), tick);
            }
            if (left > 0) {
                Checks.due("run to 9999", x.run(left), 0);
                Checks.due("tick", x.state(0), 9999);
            }
            Checks.throwsState("one more", () -> x.run(1));
            Checks.throwsArgument("a wrong number is told first", () -> x.run(0));
            Checks.throwsArgument("a wrong number is told first", () -> x.run(1001));
            Checks.due("tick stays", x.state(0), 9999);
            x.reset(0, 0);
            Checks.throwsState("a reset leaves the tick", () -> x.run(1));
        }
    }

    private static void tickAtMostWhileStopped() {
        CountedPendulum x = Plants.at("limit 512 9;", 0, 0, 10, 0);
        for (int tick = 1000; tick <= 9000; tick += 1000) {
            Checks.due("run while stopped", x.run(1000), 3);
        }
        Checks.throwsState("run to 10000 while stopped", () -> x.run(1000));
        Checks.due("run to 9999 while stopped", x.run(999), 3);
        Checks.throwsState("one more while stopped", () -> x.run(1));
    }

    /** Promise 24: "ticks: 1 to 1000". */
    private static void ticksOfRun() {
        CountedPendulum x = new CountedPendulum();
        Checks.throwsArgument("run 0", () -> x.run(0));
        Checks.throwsArgument("run -1", () -> x.run(-1));
        Checks.throwsArgument("run 1001", () -> x.run(1001));
        for (int ticks : FAR_OUT) {
            Checks.throwsArgument("run " + ticks, () -> x.run(ticks));
        }
        Checks.due("tick", x.state(0), 0);
        Checks.due("run 1", x.run(1), 0);
        Checks.due("tick", x.state(0), 1);
        Checks.due("run 1000", x.run(1000), 0);
        Checks.due("tick", x.state(0), 1001);
    }

    private static void runIsOneChange() {
        CountedPendulum x = new CountedPendulum();
        x.run(1000);
        x.run(1);
        Checks.due("undo of one tick", x.undo(), 1);
        Checks.due("tick", x.state(0), 1000);
        Checks.due("undo of a thousand", x.undo(), 0);
        Checks.due("tick", x.state(0), 0);
    }

    /** "In a tick, its number increases by 1. If the mode is 3, nothing else happens." */
    private static void nothingElseWhileStopped() {
        CountedPendulum x = swinging(FLICKERING.replace("9999; chatter", "100; chatter") + "1 9 50;", 30, 30);
        x.run(2);
        Checks.due("lock", x.state(4), 50);
        Plants.faster(x, 2, 101);
        Checks.due("stopped", x.run(1), 3);
        Checks.due("the lock of the tick of the stop", x.state(4), 49);
        int[] then = {x.state(2), x.state(3), 30, 0, 36, 101};
        for (int ticks : new int[] {1, 1, 200, 1000}) {
            int tick = x.state(0);
            Checks.due("stopped", x.run(ticks), 3);
            Checks.due("tick", x.state(0), tick + ticks);
            Checks.due("lock", x.state(4), 49);
            Checks.due("switches", x.state(6), 2);
            Checks.due("stops", x.state(7), 1);
            Plants.moved("stopped", x, then);
        }
    }

    /** "If the lock is above 0, it decreases by 1." */
    private static void lockDecreases() {
        CountedPendulum x = swinging(FLICKERING + "1 2 3;", 30, 30);
        int[] locks = {0, 3, 2, 1, 0, 3};
        for (int tick = 1; tick <= locks.length; tick++) {
            x.run(1);
            Checks.due("lock in tick " + tick, x.state(4), locks[tick - 1]);
        }
        CountedPendulum y = new CountedPendulum();
        y.run(1000);
        Checks.due("a lock of 0 stays 0", y.state(4), 0);
    }

    /** "the lock is 0": a lock of 1 becomes 0 before the capture of the same tick, one of 2 does not. */
    private static void lockEndsInTheTickOfACapture() {
        for (int hold = 1; hold <= 2; hold++) {
            CountedPendulum x = swinging(FLICKERING + "1 2 " + hold + ";", 30, 30);
            x.run(2);
            Checks.due("lock", x.state(4), hold);
            x.run(1);
            Checks.due("switches by a lock of " + hold, x.state(6), hold == 1 ? 3 : 2);
            x.run(1);
            Checks.due("switches one tick later", x.state(6), hold == 1 ? 4 : 3);
        }
    }

    /** "hold 0 to 999" */
    private static void shortestAndLongestHold() {
        CountedPendulum x = swinging(FLICKERING + "1 2 0;", 30, 30);
        x.run(2);
        Checks.due("lock by a hold of 0", x.state(4), 0);
        x.run(1);
        Checks.due("captured at once", x.state(6), 3);
        CountedPendulum y = swinging(FLICKERING + "1 2 999;", 30, 30);
        y.run(2);
        Checks.due("lock by a hold of 999", y.state(4), 999);
        // Idle meanwhile, lest the cart leave the rail.
        y.setMode(0);
        y.run(997);
        y.setMode(1);
        Checks.due("lock", y.state(4), 2);
        Checks.due("one tick before", y.run(1), 1);
        Checks.due("the tick itself", y.run(1), 2);
        Checks.due("tick", y.state(0), 1001);
    }

    private static void lockInEveryMode() {
        for (int mode = 0; mode <= 2; mode++) {
            CountedPendulum x = swinging(FLICKERING + "1 2 100;", 30, 30);
            x.run(2);
            x.setMode(mode);
            Checks.due("setMode leaves the lock", x.state(4), 100);
            x.run(1);
            // In balance, the link leans too far again: that is a switch, and the second in two ticks.
            Checks.due("lock in mode " + mode, x.state(4), mode == 2 ? 100 : 99);
        }
    }

    /** "If the mode is 1, the lock is 0 and the state is capturable": the state before the step of the tick. */
    private static void captureByTheStateBefore() {
        String text = FREE + "push 0 0 1; region 100 100 0 1;";
        CountedPendulum out = Plants.at(text, 49, 0, 16, 0);
        out.setMode(1);
        Checks.due("capturable", out.isCapturable(), true);
        Checks.due("captured, though it leaves by the step", out.run(1), 2);
        Checks.due("not capturable any more", out.isCapturable(), false);
        CountedPendulum in = Plants.at(text, 50, 0, -16, 0);
        in.setMode(1);
        Checks.due("not capturable", in.isCapturable(), false);
        Checks.due("not captured, though it comes in by the step", in.run(1), 1);
        Checks.due("capturable then", in.isCapturable(), true);
        Checks.due("captured by the next tick", in.run(1), 2);
    }

    private static void captureInSwingUpAlone() {
        CountedPendulum x = Plants.at(FREE + "push 0 0 1; region 100 100 0 1;", 0, 0, 0, 0);
        Checks.due("idle", x.run(1), 0);
        x.setMode(2);
        Checks.due("balance", x.run(1), 2);
        Checks.due("no switch", x.state(6), 0);
        x.setMode(1);
        Checks.due("swing-up", x.run(1), 2);
        Checks.due("a switch", x.state(6), 1);
    }

    /** "the mode is 2 and the lean of a link is above the angle of limit or below its negative" */
    private static void limitOfLean() {
        for (int limit : new int[] {1, 100, 2000}) {
            for (int sign = -1; sign <= 1; sign += 2) {
                for (int beyond = 0; beyond <= 1; beyond++) {
                    int lean = sign * (limit + beyond);
                    String text = FREE + "push 0 0 1; limit " + limit + " 9999;";
                    CountedPendulum one = Plants.at(text, lean & 4095, 0, 0, 0);
                    CountedPendulum two = Plants.at(text, 0, lean & 4095, 0, 0);
                    for (CountedPendulum x : new CountedPendulum[] {one, two}) {
                        x.setMode(2);
                        Checks.due("mode by lean " + lean + " of " + limit, x.run(1), beyond == 0 ? 2 : 1);
                        Checks.due("switches", x.state(6), beyond);
                        Checks.due("switchesIn", x.switchesIn(1), beyond);
                    }
                }
            }
        }
    }

    private static void limitInBalanceAlone() {
        String text = FREE + "push 0 0 1; region 1 1 0 1; limit 100 9999;";
        CountedPendulum x = Plants.at(text, 101, 0, 0, 0);
        Checks.due("idle", x.run(1), 0);
        x.setMode(1);
        Checks.due("swing-up", x.run(1), 1);
        Checks.due("no switch", x.state(6), 0);
        x.setMode(2);
        Checks.due("balance", x.run(1), 1);
        Checks.due("a switch", x.state(6), 1);
    }

    /** "If instead the mode is 2": what a tick has captured it does not give up. */
    private static void oneSwitchATick() {
        CountedPendulum x = swinging(FLICKERING + "20 200 0;", 30, 30);
        for (int tick = 1; tick <= 20; tick++) {
            Checks.due("mode in tick " + tick, x.run(1), tick % 2 == 1 ? 2 : 1);
            Checks.due("switches in tick " + tick, x.state(6), tick);
        }
    }

    /** "If by a switch there are more than switches of them": that number, and one more; "switches 1 to 20". */
    private static void moreThanSwitches() {
        for (int switches = 1; switches <= 20; switches++) {
            CountedPendulum x = swinging(FLICKERING + switches + " 200 7;", 30, 30);
            Checks.due("mode by " + switches, x.run(switches), switches % 2 == 1 ? 2 : 1);
            Checks.due("lock by " + switches, x.state(4), 0);
            Checks.due("mode by one more than " + switches, x.run(1), 1);
            Checks.due("lock by one more than " + switches, x.state(4), 7);
            Checks.due("switches", x.state(6), switches + 1);
        }
    }

    /** "in the latest window ticks (this one included)": two switches at both ends of the window, and one tick farther apart. */
    private static void latestWindowTicks() {
        for (int window : new int[] {1, 2, 3, 50, 63, 64, 65, 127, 128, 129, 191, 192, 193, 199, 200}) {
            for (int apart = window - 1; apart <= window; apart++) {
                if (apart == 0) {
                    continue;
                }
                CountedPendulum x = swinging(FLICKERING + "1 " + window + " 7;", 30, 30);
                x.run(1);
                if (apart > 1) {
                    x.setMode(0);
                    x.run(apart - 1);
                }
                x.setMode(1);
                Checks.due("mode by switches " + apart + " apart in " + window, x.run(1), apart < window ? 1 : 2);
                Checks.due("lock by switches " + apart + " apart in " + window, x.state(4), apart < window ? 7 : 0);
                Checks.due("switches", x.state(6), 2);
            }
        }
        // Those of a window of 3 are forgotten one by one.
        CountedPendulum y = swinging(FLICKERING + "2 3 2;", 30, 30);
        int[] locks = {0, 0, 2, 1, 0, 0, 2, 1, 0};
        for (int tick = 1; tick <= locks.length; tick++) {
            y.run(1);
            Checks.due("lock in tick " + tick, y.state(4), locks[tick - 1]);
        }
        Checks.due("switches in ticks 1, 2, 3, 5, 6, 7 and 9", y.state(6), 7);
    }

    /** "the mode becomes 1 and the lock becomes hold; that is not another switch" */
    private static void chatterIsNoOtherSwitch() {
        // The second switch gives up balance, the third is a capture: both end in swing-up.
        for (int switches = 1; switches <= 2; switches++) {
            CountedPendulum x = swinging(FLICKERING + switches + " 9 5;", 30, 30);
            Checks.due("mode", x.run(switches + 1), 1);
            Checks.due("lock", x.state(4), 5);
            Checks.due("switches", x.state(6), switches + 1);
            Checks.due("switchesIn 1", x.switchesIn(1), 1);
            Checks.due("switchesIn 9", x.switchesIn(9), switches + 1);
        }
        // A lock that is there still is not added to.
        CountedPendulum y = swinging(FLICKERING + "1 9 5;", 30, 30);
        y.run(3);
        y.setMode(2);
        y.run(1);
        Checks.due("lock", y.state(4), 5);
        Checks.due("switches", y.state(6), 3);
    }

    /** "Its push is 0 in mode 0 and the balancing push in mode 2": the mode that the tick has switched to. */
    private static void pushOfTheModeThen() {
        String text = "gravity 0 0; damping 0 0; couple 0; push 0 0 100; gains 64 0 0 0 0 0; region 100 100 0 1; limit 20 9999; rail 9999; chatter ";
        CountedPendulum x = swinging(text + "2 9 1;", 30, 30);
        x.run(1);
        Checks.due("captured: pushed by 30", x.state(3), 30);
        x.run(1);
        Checks.due("given up: pushed by 100", x.state(3), 130);
        x.run(1);
        Checks.due("captured, but chattering: pushed by 100", x.state(3), 230);
        x.setMode(0);
        x.run(1);
        Checks.due("idle: pushed by 0", x.state(3), 230);
    }

    /** "If the step hits a rail end or there is overspeed, the mode becomes 3; this is a stop, no switch." */
    private static void stopInATick() {
        for (int mode = 0; mode <= 2; mode++) {
            CountedPendulum x = Plants.at(FREE + "push 0 0 1; limit 512 100;", 0, 0, 101, 0);
            x.setMode(mode);
            Checks.due("overspeed in mode " + mode, x.run(1), 3);
            Checks.due("stops", x.state(7), 1);
            Checks.due("switches", x.state(6), 0);
            Checks.due("stopReason", x.stopReason(), 2);
            CountedPendulum y = Plants.at(FREE + "push 0 0 16; rail 2; region 1 1 0 1;", 500, 500, 0, 0);
            y.setMode(1);
            Checks.due("just at the end", y.run(1), 1);
            y.setMode(mode);
            Checks.due("rail end in mode " + mode, y.run(1), 3);
            Checks.due("stops", y.state(7), 1);
            Checks.due("switches", y.state(6), 0);
            Checks.due("stopReason", y.stopReason(), 1);
            y.run(5);
            Checks.due("no other stop while stopped", y.state(7), 1);
        }
    }

    private static void switchAndStopInATick() {
        CountedPendulum x = Plants.at(FREE + "push 0 0 1; region 500 500 0 1; limit 512 100;", 0, 0, 101, 0);
        x.setMode(1);
        Checks.due("captured and stopped", x.run(1), 3);
        Checks.due("one switch", x.state(6), 1);
        Checks.due("one switch", x.switchesIn(1), 1);
        Checks.due("one stop", x.state(7), 1);
        CountedPendulum y = Plants.at(FREE + "push 0 0 1; limit 512 100;", 513, 0, 101, 0);
        y.setMode(2);
        Checks.due("given up and stopped", y.run(1), 3);
        Checks.due("one switch", y.state(6), 1);
        Checks.due("one stop", y.state(7), 1);
    }

    /** Promise 20: "limit: 0 to 1000". */
    private static void limitsOfTicksToBalance() {
        CountedPendulum x = new CountedPendulum();
        for (int mode = 0; mode <= 2; mode++) {
            x.setMode(mode);
            Checks.throwsArgument("ticksToBalance -1", () -> x.ticksToBalance(-1));
            Checks.throwsArgument("ticksToBalance 1001", () -> x.ticksToBalance(1001));
            for (int limit : FAR_OUT) {
                Checks.throwsArgument("ticksToBalance " + limit, () -> x.ticksToBalance(limit));
            }
        }
        Checks.due("ticksToBalance 0", x.ticksToBalance(0), 0);
        Checks.due("ticksToBalance 1000", x.ticksToBalance(1000), 0);
    }

    /** "0 if it is 2 now, otherwise up to limit; NONE if it is not within limit ticks" */
    private static void balanceNowOrWithin() {
        for (int lock = 0; lock <= 5; lock++) {
            CountedPendulum x = swinging(FLICKERING + "1 2 7;", 30, 30);
            x.run(9 - lock);
            Checks.due("lock", x.state(4), lock);
            // The capture at the end of the lock is the only switch in two ticks.
            Checks.due("ticksToBalance by a lock of " + lock, x.ticksToBalance(1000), lock);
            Checks.due("just within", x.ticksToBalance(lock), lock);
            if (lock > 0) {
                Checks.due("just not within", x.ticksToBalance(lock - 1), RailPendulum.NONE);
                Checks.due("not now", x.ticksToBalance(0), RailPendulum.NONE);
            }
        }
        CountedPendulum idle = Plants.at("", 0, 0, 0, 0);
        Checks.due("idle", idle.ticksToBalance(1000), RailPendulum.NONE);
        CountedPendulum stopped = Plants.at("limit 512 9;", 0, 0, 200, 0);
        stopped.setMode(1);
        Checks.due("overspeed", stopped.run(1), 3);
        Checks.due("stopped", stopped.ticksToBalance(1000), RailPendulum.NONE);
    }

    /** A balance after just 1000 ticks: the next tick captures, but chatters, and the lock of 999 ends with the last. */
    private static void balanceAfterTheMost() {
        // The links swing about one another, so that the cart is pushed to and fro.
        String text = "gravity 0 0; damping 0 0; couple 200; gains 0 0 0 0 0 0; push 0 0 1; rail 9999;"
                + "region 100 100 0 1; limit 20 9999; chatter 2 5 999;";
        CountedPendulum x = swinging(text, 35, 25);
        Checks.due("captured and given up", x.run(2), 1);
        Checks.due("1000 of 1000", x.ticksToBalance(1000), 1000);
        Checks.due("1000 of 999", x.ticksToBalance(999), RailPendulum.NONE);
        Checks.due("captured, but chattering", x.run(1), 1);
        Checks.due("lock", x.state(4), 999);
        Checks.due("999 of 1000", x.ticksToBalance(1000), 999);
        Checks.due("999 of 999", x.ticksToBalance(999), 999);
        Checks.due("999 of 998", x.ticksToBalance(998), RailPendulum.NONE);
        Checks.due("run", x.run(998), 1);
        Checks.due("run", x.run(1), 2);
    }

    /** Promise 21: "limit: 0 to 1000". */
    private static void limitsOfTicksToStop() {
        CountedPendulum x = Plants.at("limit 512 9;", 0, 0, 10, 0);
        for (int time = 0; time < 2; time++) {
            Checks.throwsArgument("ticksToStop -1", () -> x.ticksToStop(-1));
            Checks.throwsArgument("ticksToStop 1001", () -> x.ticksToStop(1001));
            for (int limit : FAR_OUT) {
                Checks.throwsArgument("ticksToStop " + limit, () -> x.ticksToStop(limit));
            }
            Checks.due("ticksToStop 0", x.ticksToStop(0), time == 0 ? RailPendulum.NONE : 0);
            Checks.due("ticksToStop 1000", x.ticksToStop(1000), 1 - time);
            Checks.due("stopped", x.run(1), 3);
        }
    }

    /** By 1 in each tick, to the right. */
    private static CountedPendulum rolling(int rail) {
        CountedPendulum x = Plants.plant(FREE + "push 0 0 8; region 1 1 0 1; rail " + rail + ";");
        x.setMode(1);
        x.run(1);
        x.setMode(0);
        return x;
    }

    /** "0 if it is 3 now, otherwise up to limit; NONE if it is not within limit ticks" */
    private static void stopNowOrWithin() {
        for (int rail = 1; rail <= 4; rail++) {
            CountedPendulum x = rolling(rail);
            Checks.due("within 1000", x.ticksToStop(1000), rail);
            Checks.due("just within", x.ticksToStop(rail), rail);
            Checks.due("just not within", x.ticksToStop(rail - 1), RailPendulum.NONE);
            Checks.due("not now", x.ticksToStop(0), RailPendulum.NONE);
            Checks.due("stopped", x.run(rail), 3);
            Checks.due("now", x.ticksToStop(0), 0);
            Checks.due("now", x.ticksToStop(1000), 0);
        }
    }

    private static void stopAfterTheMost() {
        CountedPendulum x = rolling(1000);
        Checks.due("1000 of 1000", x.ticksToStop(1000), 1000);
        Checks.due("1000 of 999", x.ticksToStop(999), RailPendulum.NONE);
        CountedPendulum y = rolling(1001);
        Checks.due("1001 of 1000", y.ticksToStop(1000), RailPendulum.NONE);
        y.run(1);
        Checks.due("one tick later", y.ticksToStop(1000), 1000);
        Checks.due("run", y.run(999), 0);
        Checks.due("run", y.run(1), 3);
    }

    /** Promise 22: "ticks: 0 to 1000". */
    private static void ticksOfFarthest() {
        CountedPendulum x = rolling(9999);
        Checks.throwsArgument("farthest -1", () -> x.farthest(-1));
        Checks.due("farthest 0", x.farthest(0), 1);
        Checks.due("farthest 1", x.farthest(1), 2);
        Checks.due("farthest 999", x.farthest(999), 1000);
        Checks.due("farthest 1000", x.farthest(1000), 1001);
        Checks.throwsArgument("farthest 1001", () -> x.farthest(1001));
        for (int ticks : FAR_OUT) {
            Checks.throwsArgument("farthest " + ticks, () -> x.farthest(ticks));
        }
        Checks.due("at rest", new CountedPendulum().farthest(1000), 0);
        CountedPendulum y = rolling(900);
        Checks.due("just the rail", y.farthest(899), 900);
        Checks.due("no farther than the rail", y.farthest(900), 900);
        Checks.due("no farther than the rail", y.farthest(1000), 900);
    }

    /** "the greatest distance of the cart from 0, now or behind one of the next ticks": on both sides of 0. */
    private static void farthestNowOrLater() {
        for (int sign = -1; sign <= 1; sign += 2) {
            // The sign of link 1's speed is that of the push, for its energy is above its target of 0.
            CountedPendulum x = Plants.at(FREE + "push 0 0 80; region 1 1 0 1; rail 9999; limit 2000 9999;", 0, 0, sign * 2, 0);
            x.setMode(1);
            x.run(4);
            Checks.due("x", x.state(2), sign * 100);
            x.nudge(1, -4 * sign);
            // v is 320 now, and 240, 160, 80, 0, -80 .. next: x is 130, 150, 160, 160, 150, 130, 100, 60, 10, -50, -120, -200.
            int[] distances = {100, 130, 150, 160, 160, 160, 160, 160, 160, 160, 160, 160, 200};
            for (int ticks = 0; ticks < distances.length; ticks++) {
                Checks.due("farthest " + ticks, x.farthest(ticks), distances[ticks]);
            }
            x.run(7);
            Checks.due("x", x.state(2), sign * 100);
            Checks.due("now", x.farthest(0), 100);
            Checks.due("now is the farthest", x.farthest(2), 100);
            Checks.due("what was farther before does not count", x.farthest(3), 100);
            Checks.due("farther on the other side", x.farthest(4), 120);
            Checks.due("farther on the other side", x.farthest(5), 200);
        }
    }

    /** Promise 23: links are checked first; "what: as in link"; "ticks: 0 to 1000". */
    private static void argumentsOfLinkAfter() {
        CountedPendulum x = Plants.at(FREE, 4090, 5, 16, -32);
        int[] wrong = {-1, 1001, Integer.MIN_VALUE, Integer.MAX_VALUE};
        for (int link = 1; link <= 2; link++) {
            int there = link;
            Checks.throwsArgument("linkAfter what -1", () -> x.linkAfter(there, -1, 1));
            Checks.due("angle", x.linkAfter(link, 0, 1), link == 1 ? 4091 : 3);
            Checks.due("speed", x.linkAfter(link, 1, 1), link == 1 ? 16 : -32);
            Checks.due("lean", x.linkAfter(link, 2, 1), link == 1 ? -5 : 3);
            Checks.throwsArgument("linkAfter what 3", () -> x.linkAfter(there, 3, 1));
            for (int ticks : wrong) {
                Checks.throwsArgument("linkAfter ticks " + ticks, () -> x.linkAfter(there, 0, ticks));
            }
            for (int what : FAR_OUT) {
                Checks.throwsArgument("linkAfter what " + what, () -> x.linkAfter(there, what, 1));
            }
        }
        for (int link : new int[] {0, 3, -1, Integer.MIN_VALUE, Integer.MAX_VALUE}) {
            Checks.throwsIndex("linkAfter " + link, () -> x.linkAfter(link, 0, 1));
            Checks.throwsIndex("linkAfter " + link + ", what 3", () -> x.linkAfter(link, 3, 1));
            Checks.throwsIndex("linkAfter " + link + ", ticks 1001", () -> x.linkAfter(link, 0, 1001));
            Checks.throwsIndex("linkAfter " + link + ", both wrong", () -> x.linkAfter(link, -1, -1));
        }
    }

    private static void ticksOfLinkAfter() {
        CountedPendulum x = Plants.at(FREE, 4090, 5, 16, -32);
        int[] ticks = {0, 1, 5, 6, 7, 999, 1000};
        int[] angles = {4090, 4091, 4095, 0, 1, 993, 994};
        int[] others = {5, 3, 4091, 4089, 4087, 2103, 2101};
        for (int k = 0; k < ticks.length; k++) {
            Checks.due("angle 1 after " + ticks[k], x.linkAfter(1, 0, ticks[k]), angles[k]);
            Checks.due("angle 2 after " + ticks[k], x.linkAfter(2, 0, ticks[k]), others[k]);
        }
        CountedPendulum y = Plants.at("limit 512 9; damping 0 0; gravity 0 0; couple 0;", 100, 100, 16, 0);
        Checks.due("it moves in the tick of the stop", y.linkAfter(1, 0, 1), 101);
        Checks.due("and no more", y.linkAfter(1, 0, 2), 101);
        Checks.due("and no more", y.linkAfter(1, 0, 1000), 101);
    }

    /** "the tick may then exceed 9999" */
    private static void beyondTheGreatestTick() {
        for (int tick = 9998; tick <= 9999; tick++) {
            CountedPendulum x = atTick(tick);
            x.reset(100, 100);
            x.nudge(1, 16);
            CountedPendulum y = Plants.at("", 100, 100, 16, 0);
            for (int ticks : new int[] {0, 1, 2, 1000}) {
                Checks.due("angle after " + ticks, x.linkAfter(1, 0, ticks), y.linkAfter(1, 0, ticks));
                Checks.due("speed after " + ticks, x.linkAfter(2, 1, ticks), y.linkAfter(2, 1, ticks));
            }
            Checks.due("the tick stays", x.state(0), tick);
        }
    }
}
