/** What CHANGES and promises 25 to 31 say of boundaries: a test for each sentence, on both sides; and the 512th call. */
public final class ChangesEdgesTest {
    private static final String SMALL = "region 9 9 0 1; limit 512 9999;";
    private static final int[] FAR_OUT = {Integer.MIN_VALUE, Integer.MAX_VALUE};

    public static void main(String[] args) {
        modesOfSetMode();
        setModeWhileStopped();
        setModeIsNoSwitch();
        anglesOfReset();
        resetInAnyMode();
        whatAResetLeaves();
        amountsOfNudge();
        speedsOfNudge();
        nudgeWhileStopped();
        linksOfNudge();
        forcesOfSetForce();
        setForceInAnyMode();
        cellsTriedAnew();
        undoOfNone();
        undoOfTenAndEleven();
        undoOfEachChange();
        undoBetweenChanges();
        onlyRunToSetForceAreChanges();
        refusedCallsAreNoChanges();
        slotsOfSnapshots();
        emptyAndFilledSlots();
        inPlaceOfAnEarlierOne();
        restoredMoreThanOnce();
        historyAfterARestore();
        snapshotOfAStop();
        switchesOfASnapshot();
        parseThatSucceeds();
        parseThatFails();
        refusedCallsChangeNothing();
        indexIsCheckedFirst();
        the512thCall();
        the512thCallOfTheDearest();
        Checks.finish();
    }

    private static CountedPendulum stopped() {
        CountedPendulum x = Plants.at("region 9 9 0 1; limit 512 9; push 1 1 60;", 0, 0, 100, 0);
        Checks.due("stopped", x.run(1), 3);
        return x;
    }

    /** Promise 25: "mode: 0 to 2", "the mode before". */
    private static void modesOfSetMode() {
        CountedPendulum x = Plants.plant(SMALL);
        Checks.throwsArgument("setMode -1", () -> x.setMode(-1));
        Checks.throwsArgument("setMode 3", () -> x.setMode(3));
        for (int mode : FAR_OUT) {
            Checks.throwsArgument("setMode " + mode, () -> x.setMode(mode));
        }
        for (int from = 0; from <= 2; from++) {
            for (int to = 0; to <= 2; to++) {
                x.setMode(from);
                Checks.due("setMode " + to, x.setMode(to), from);
                Checks.due("mode", x.state(1), to);
            }
        }
    }

    /** "IllegalArgumentException if mode is out of range (checked first)", "IllegalStateException if the mode is 3" */
    private static void setModeWhileStopped() {
        CountedPendulum x = stopped();
        for (int mode = 0; mode <= 2; mode++) {
            int to = mode;
            Checks.throwsState("setMode " + mode, () -> x.setMode(to));
        }
        for (int mode : new int[] {-1, 3, Integer.MIN_VALUE, Integer.MAX_VALUE}) {
            Checks.throwsArgument("setMode " + mode, () -> x.setMode(mode));
        }
        Checks.due("mode", x.state(1), 3);
        x.reset(0, 0);
        Checks.due("after a reset", x.setMode(2), 0);
    }

    /** "that is no switch": nor does it count towards chatter. */
    private static void setModeIsNoSwitch() {
        CountedPendulum x = Plants.at("gravity 0 0; damping 0 0; couple 0; gains 0 0 0 0 0 0; push 0 0 1;"
                + "region 100 100 0 1; limit 20 9999; chatter 1 200 50;", 30, 30, 0, 0);
        for (int k = 0; k < 20; k++) {
            x.setMode(k % 3);
        }
        Checks.due("switches", x.state(6), 0);
        Checks.due("switchesIn", x.switchesIn(200), 0);
        x.setMode(1);
        Checks.due("one switch", x.run(1), 2);
        Checks.due("lock", x.state(4), 0);
        x.setMode(1);
        x.setMode(2);
        Checks.due("the other switch", x.run(1), 1);
        Checks.due("lock", x.state(4), 50);
        Checks.due("switches", x.state(6), 2);
    }

    /** Promise 26: "a1: 0 to 4095", "a2: 0 to 4095". */
    private static void anglesOfReset() {
        CountedPendulum x = Plants.plant(SMALL);
        for (int wrong : new int[] {-1, 4096, Integer.MIN_VALUE, Integer.MAX_VALUE}) {
            Checks.throwsArgument("reset a1 " + wrong, () -> x.reset(wrong, 0));
            Checks.throwsArgument("reset a2 " + wrong, () -> x.reset(0, wrong));
            Checks.throwsArgument("reset both " + wrong, () -> x.reset(wrong, wrong));
        }
        Checks.due("resets", x.state(8), 0);
        Checks.due("angle", x.link(1, 0), 2048);
        Checks.due("reset 0 4095", x.reset(0, 4095), 0);
        Plants.moved("reset", x, 0, 0, 0, 0, 4095, 0);
        Checks.due("reset 4095 0", x.reset(4095, 0), 0);
        Plants.moved("reset", x, 0, 0, 4095, 0, 0, 0);
        Checks.due("resets", x.state(8), 2);
    }

    /** "Resets the plant, in any mode", "Returns the mode before." */
    private static void resetInAnyMode() {
        for (int mode = 0; mode <= 3; mode++) {
            CountedPendulum x = mode == 3 ? stopped() : Plants.plant(SMALL);
            if (mode < 3) {
                x.setMode(mode);
            }
            int resets = x.state(8);
            Checks.due("reset in mode " + mode, x.reset(1, 2), mode);
            Checks.due("mode", x.state(1), 0);
            Checks.due("resets", x.state(8), resets + 1);
            Plants.moved("reset", x, 0, 0, 1, 0, 2, 0);
        }
    }

    /** "x, v, both speeds and the lock become 0 .. The tick, the switches and the stops stay." */
    private static void whatAResetLeaves() {
        CountedPendulum x = Plants.at("gravity 0 0; damping 0 0; couple 0; gains 0 0 0 0 0 0; push 0 0 9;"
                + "region 100 100 0 1; limit 20 99; chatter 1 200 50;", 30, 30, 0, 0);
        x.setMode(1);
        x.run(5);
        x.nudge(1, 5);
        x.nudge(2, -6);
        Checks.due("x is not 0", x.state(2) > 0, true);
        Checks.due("v is not 0", x.state(3) > 0, true);
        Checks.due("lock is not 0", x.state(4) > 0, true);
        x.setForce(77);
        x.reset(7, 8);
        Plants.moved("reset", x, 0, 0, 7, 0, 8, 0);
        int[] state = {5, 0, 0, 0, 0, 77, 2, 0, 2};
        for (int what = 0; what < state.length; what++) {
            Checks.due("reset: state " + what, x.state(what), state[what]);
        }
        Checks.due("the latest switches", x.switchesIn(4), 1);
        Checks.due("the latest switches", x.switchesIn(5), 2);
        x.nudge(1, 100);
        x.run(1);
        x.reset(7, 8);
        Checks.due("stops", x.state(7), 1);
        Checks.due("stopReason", x.stopReason(), 2);
    }

    /** Promise 27: "amount: -500 to 500". */
    private static void amountsOfNudge() {
        for (int link = 1; link <= 2; link++) {
            CountedPendulum x = Plants.plant(SMALL);
            int there = link;
            Checks.throwsArgument("nudge 501", () -> x.nudge(there, 501));
            Checks.throwsArgument("nudge -501", () -> x.nudge(there, -501));
            for (int amount : FAR_OUT) {
                Checks.throwsArgument("nudge " + amount, () -> x.nudge(there, amount));
            }
            Checks.due("speed", x.link(link, 1), 0);
            Checks.due("nudge 500", x.nudge(link, 500), 500);
            Checks.due("nudge -500", x.nudge(link, -500), 0);
            Checks.due("nudge -500", x.nudge(link, -500), -500);
            Checks.due("nudge 0", x.nudge(link, 0), -500);
            Checks.due("nudge 1", x.nudge(link, 1), -499);
            Checks.due("speed", x.link(link, 1), -499);
            Checks.due("the other link", x.link(3 - link, 1), 0);
        }
    }

    /** "IllegalStateException if .. its speed would be above 9999 or below -9999" */
    private static void speedsOfNudge() {
        for (int link = 1; link <= 2; link++) {
            for (int sign = -1; sign <= 1; sign += 2) {
                CountedPendulum x = Plants.plant(SMALL);
                int there = link;
                int way = sign;
                Plants.faster(x, link, sign * 9500);
                Checks.throwsState("nudge to 10000", () -> x.nudge(there, way * 500));
                Checks.due("speed", x.link(link, 1), sign * 9500);
                Checks.due("nudge to 9999", x.nudge(link, sign * 499), sign * 9999);
                Checks.throwsState("one more", () -> x.nudge(there, way));
                Checks.throwsState("500 more", () -> x.nudge(there, way * 500));
                Checks.throwsArgument("the amount is checked before the speed", () -> x.nudge(there, way * 501));
                Checks.due("none more", x.nudge(link, 0), sign * 9999);
                Checks.due("one less", x.nudge(link, -sign), sign * 9998);
                Checks.due("one more", x.nudge(link, sign), sign * 9999);
                Checks.due("the other link", x.nudge(3 - link, sign), sign);
            }
        }
    }

    private static void nudgeWhileStopped() {
        CountedPendulum x = stopped();
        for (int link = 1; link <= 2; link++) {
            int there = link;
            for (int amount : new int[] {-500, 0, 500}) {
                Checks.throwsState("nudge " + amount, () -> x.nudge(there, amount));
            }
            Checks.throwsArgument("the amount is checked before the mode", () -> x.nudge(there, 501));
            Checks.throwsArgument("the amount is checked before the mode", () -> x.nudge(there, -501));
        }
        Checks.throwsIndex("the link is checked before the mode", () -> x.nudge(3, 0));
        Checks.throwsIndex("the link is checked before the mode", () -> x.nudge(0, 501));
    }

    /** "IndexOutOfBoundsException if there is no such link (checked first)" */
    private static void linksOfNudge() {
        CountedPendulum x = Plants.plant(SMALL);
        for (int link : new int[] {0, 3, -1, Integer.MIN_VALUE, Integer.MAX_VALUE}) {
            for (int amount : new int[] {0, 500, 501, -501}) {
                Checks.throwsIndex("nudge " + link + " " + amount, () -> x.nudge(link, amount));
            }
        }
        Checks.due("nudge 1", x.nudge(1, 3), 3);
        Checks.due("nudge 2", x.nudge(2, 4), 4);
    }

    /** Promise 28: "force: 1 to 500". */
    private static void forcesOfSetForce() {
        CountedPendulum x = new CountedPendulum();
        for (int force : new int[] {0, 501, -1, Integer.MIN_VALUE, Integer.MAX_VALUE}) {
            Checks.throwsArgument("setForce " + force, () -> x.setForce(force));
        }
        Checks.due("force", x.state(5), 60);
        for (int force : new int[] {1, 2, 499, 500}) {
            int verified = x.setForce(force);
            Checks.due("force", x.state(5), force);
            Checks.due("the number of verified cells", verified, x.regionSize());
            Checks.due("as of a plant of that force", verified, Plants.plant("push 1 1 " + force + ";").regionSize());
        }
    }

    private static void setForceInAnyMode() {
        for (int mode = 0; mode <= 3; mode++) {
            CountedPendulum x = mode == 3 ? stopped() : Plants.plant(SMALL);
            if (mode < 3) {
                x.setMode(mode);
            }
            Checks.due("setForce in mode " + mode, x.setForce(5), 1);
            Checks.due("force", x.state(5), 5);
            Checks.due("the mode stays", x.state(1), mode);
        }
    }

    /** "all cells are tried anew": with more of them verified, and with fewer. */
    private static void cellsTriedAnew() {
        CountedPendulum x = Plants.plant("gravity 0 0; damping 0 0; push 0 0 500; couple 0; gains 99 0 99 0 0 0;"
                + "region 100 1 3 1; limit 2000 9999; rail 9;");
        // By a force of 79 the cart goes by 9, by 80 and more by 10; upright it stays. Beyond lean 100 the reason is 4.
        int[] forces = {79, 80, 500, 79};
        for (int force : forces) {
            boolean far = force >= 80;
            Checks.due("setForce " + force, x.setForce(force), far ? 7 : 21);
            Checks.due("cellsWith 1", x.cellsWith(1), far ? 42 : 0);
            Checks.due("cellsWith 4", x.cellsWith(4), far ? 0 : 28);
            Checks.due("failedStep", x.failedStep(-3, 3), far ? 1 : -1);
            Checks.due("failedStep", x.failedStep(1, 0), far ? 1 : -1);
        }
    }

    /** Promise 29: "NONE if there was none to undo". */
    private static void undoOfNone() {
        CountedPendulum x = Plants.plant(SMALL);
        Checks.due("of none", x.undo(), RailPendulum.NONE);
        x.run(1);
        Checks.due("of one", x.undo(), 0);
        Checks.due("of none", x.undo(), RailPendulum.NONE);
        Checks.due("of none", x.undo(), RailPendulum.NONE);
        Checks.due("tick", x.state(0), 0);
    }

    /** "The latest 10 changes can be undone, the latest first." */
    private static void undoOfTenAndEleven() {
        for (int changes : new int[] {9, 10, 11, 19, 20, 21, 100}) {
            CountedPendulum x = Plants.plant(SMALL);
            for (int k = 1; k <= changes; k++) {
                x.reset(k, 4095 - k);
            }
            int most = Math.min(changes, 10);
            for (int k = 1; k <= most; k++) {
                Checks.due("undo " + k + " of " + changes, x.undo(), most - k);
                Checks.due("resets", x.state(8), changes - k);
                Checks.due("angle", x.link(1, 0), changes == k ? 2048 : changes - k);
            }
            Checks.due("undo of one more", x.undo(), RailPendulum.NONE);
            Checks.due("resets", x.state(8), changes - most);
        }
    }

    private static void change(CountedPendulum x, int which) {
        switch (which) {
            case 0: x.run(3); break;
            case 1: x.setMode(1); break;
            case 2: x.reset(5, 6); break;
            case 3: x.nudge(2, -7); break;
            default: x.setForce(333); break;
        }
    }

    /** "The methods from run to setForce are changes if they succeed." */
    private static void undoOfEachChange() {
        for (int which = 0; which <= 4; which++) {
            CountedPendulum x = Plants.at("region 60 60 1 40;", 50, 60, 7, 8);
            String before = Plants.shown(x);
            change(x, which);
            Checks.due("change " + which + " is seen", Plants.shown(x).equals(before), false);
            Checks.due("change " + which + " undone", x.undo(), 3);
            Checks.sameText("change " + which + " undone", Plants.shown(x), before);
        }
        // Those that leave everything as it is can be undone as well.
        CountedPendulum y = Plants.plant(SMALL);
        y.setMode(0);
        y.nudge(1, 0);
        y.setForce(60);
        Checks.due("undo", y.undo(), 2);
        Checks.due("undo", y.undo(), 1);
        Checks.due("undo", y.undo(), 0);
    }

    private static void undoBetweenChanges() {
        CountedPendulum x = Plants.plant(SMALL);
        for (int k = 1; k <= 12; k++) {
            x.reset(k, k);
        }
        Checks.due("undo", x.undo(), 9);
        Checks.due("undo", x.undo(), 8);
        Checks.due("undo", x.undo(), 7);
        Checks.due("angle", x.link(1, 0), 9);
        for (int k = 1; k <= 4; k++) {
            x.reset(100 + k, 100 + k);
        }
        Checks.due("undo of 11, the first of which is forgotten", x.undo(), 9);
        int[] angles = {103, 102, 101, 9, 8, 7, 6, 5, 4};
        for (int k = 0; k < angles.length; k++) {
            Checks.due("angle", x.link(1, 0), angles[k]);
            Checks.due("undo", x.undo(), 8 - k);
        }
        Checks.due("angle", x.link(1, 0), 3);
        Checks.due("undo", x.undo(), RailPendulum.NONE);
        Checks.due("angle", x.link(1, 0), 3);
    }

    private static void onlyRunToSetForceAreChanges() {
        CountedPendulum x = Plants.plant(SMALL);
        x.run(1);
        x.append(1, 2, 3, 4, 5);
        x.parse(20);
        x.errorPosition();
        Plants.shown(x);
        x.sine(1);
        x.lean(1);
        x.saveSnapshot(0);
        x.saveSnapshot(0);
        Checks.due("undo", x.undo(), 0);
        Checks.due("undo", x.undo(), RailPendulum.NONE);
        Checks.due("a slot is not undone", x.saveSnapshot(0), true);
        Checks.due("nor an error's position", x.errorPosition(), 0);
    }

    private static void refusedCallsAreNoChanges() {
        CountedPendulum x = stopped();
        int changes = x.undo() + 1;
        CountedPendulum y = stopped();
        refusals(y);
        Checks.due("changes", y.undo() + 1, changes);
        Checks.due("the latest change is undone", y.state(1), 0);
    }

    /** Each call that is refused of a plant that is stopped and whose slots are empty. */
    private static void refusals(CountedPendulum x) {
        Checks.throwsArgument("run 0", () -> x.run(0));
        Checks.throwsArgument("run 1001", () -> x.run(1001));
        Checks.throwsArgument("setMode -1", () -> x.setMode(-1));
        Checks.throwsArgument("setMode 3", () -> x.setMode(3));
        Checks.throwsState("setMode 1", () -> x.setMode(1));
        Checks.throwsArgument("reset -1", () -> x.reset(-1, 5));
        Checks.throwsArgument("reset 4096", () -> x.reset(5, 4096));
        Checks.throwsIndex("nudge 0", () -> x.nudge(0, 5));
        Checks.throwsIndex("nudge 3", () -> x.nudge(3, 5));
        Checks.throwsArgument("nudge 501", () -> x.nudge(1, 501));
        Checks.throwsState("nudge 5", () -> x.nudge(1, 5));
        Checks.throwsArgument("setForce 0", () -> x.setForce(0));
        Checks.throwsArgument("setForce 501", () -> x.setForce(501));
        Checks.throwsIndex("saveSnapshot 2", () -> x.saveSnapshot(2));
        Checks.throwsIndex("restoreSnapshot 2", () -> x.restoreSnapshot(2));
        Checks.throwsState("restoreSnapshot 0", () -> x.restoreSnapshot(0));
        Checks.throwsState("restoreSnapshot 1", () -> x.restoreSnapshot(1));
        Checks.throwsArgument("parse", () -> x.parse(501));
        Checks.throwsArgument("ticksToStop", () -> x.ticksToStop(1001));
        Checks.throwsArgument("farthest", () -> x.farthest(-1));
    }

    /** "There are two snapshot slots, 0 and 1". */
    private static void slotsOfSnapshots() {
        for (int wrong : new int[] {-1, 2, Integer.MIN_VALUE, Integer.MAX_VALUE}) {
            CountedPendulum x = Plants.plant(SMALL);
            Checks.throwsIndex("saveSnapshot " + wrong, () -> x.saveSnapshot(wrong));
            Checks.throwsIndex("restoreSnapshot of empty slots", () -> x.restoreSnapshot(wrong));
            Checks.due("saveSnapshot 0", x.saveSnapshot(0), false);
            Checks.due("saveSnapshot 1", x.saveSnapshot(1), false);
            Checks.throwsIndex("saveSnapshot " + wrong, () -> x.saveSnapshot(wrong));
            Checks.throwsIndex("restoreSnapshot " + wrong, () -> x.restoreSnapshot(wrong));
            Checks.due("restoreSnapshot 0", x.restoreSnapshot(0), 0);
            Checks.due("restoreSnapshot 1", x.restoreSnapshot(1), 0);
        }
    }

    /** Promise 30: "whether there was an earlier one"; promise 31: "IllegalStateException if the slot is empty". */
    private static void emptyAndFilledSlots() {
        for (int slot = 0; slot <= 1; slot++) {
            CountedPendulum x = Plants.plant(SMALL);
            int one = slot;
            int other = 1 - slot;
            x.run(4);
            Checks.throwsState("empty", () -> x.restoreSnapshot(one));
            Checks.due("no earlier one", x.saveSnapshot(one), false);
            x.run(3);
            Checks.throwsState("the other is empty still", () -> x.restoreSnapshot(other));
            Checks.due("the tick then", x.restoreSnapshot(one), 4);
            Checks.due("an earlier one", x.saveSnapshot(one), true);
            Checks.due("none in the other", x.saveSnapshot(other), false);
            Checks.due("both", x.saveSnapshot(other), true);
        }
    }

    /** "Saves a snapshot in a slot, in place of an earlier one." */
    private static void inPlaceOfAnEarlierOne() {
        CountedPendulum x = Plants.plant(SMALL);
        x.saveSnapshot(0);
        x.saveSnapshot(1);
        x.run(1);
        x.saveSnapshot(0);
        x.run(1);
        Checks.due("the later one", x.restoreSnapshot(0), 1);
        Checks.due("the other slot", x.restoreSnapshot(1), 0);
        Checks.due("an empty one is not left", x.saveSnapshot(0), true);
    }

    /** "Restores the snapshot of a slot, which stays stored." */
    private static void restoredMoreThanOnce() {
        CountedPendulum x = Plants.at("region 60 60 1 40;", 50, 60, 7, 8);
        x.setMode(1);
        x.run(3);
        x.saveSnapshot(1);
        String saved = Plants.shown(x);
        for (int time = 1; time <= 3; time++) {
            x.setForce(time);
            x.run(time);
            x.reset(time, time);
            Checks.due("restore", x.restoreSnapshot(1), 3);
        }
        Checks.sameText("restored", Plants.shown(x), saved);
    }

    /** "The undo history is cleared." */
    private static void historyAfterARestore() {
        CountedPendulum x = Plants.plant(SMALL);
        for (int k = 0; k < 11; k++) {
            x.run(1);
        }
        x.saveSnapshot(0);
        Checks.due("a save clears nothing", x.undo(), 9);
        Checks.due("restore", x.restoreSnapshot(0), 11);
        Checks.due("cleared", x.undo(), RailPendulum.NONE);
        Checks.due("tick", x.state(0), 11);
        for (int k = 1; k <= 11; k++) {
            x.run(1);
        }
        Checks.due("a new history", x.undo(), 9);
        Checks.due("tick", x.state(0), 21);
    }

    private static void snapshotOfAStop() {
        CountedPendulum x = stopped();
        x.saveSnapshot(0);
        x.reset(0, 0);
        Checks.due("restore", x.restoreSnapshot(0), 1);
        Checks.due("mode", x.state(1), 3);
        Checks.due("switches", x.state(6), 0);
        Checks.due("stops", x.state(7), 1);
        Checks.due("resets", x.state(8), 1);
        Checks.throwsState("stopped", () -> x.setMode(1));
        CountedPendulum y = Plants.at("region 9 9 0 1; limit 512 9;", 0, 0, 100, 0);
        y.saveSnapshot(0);
        y.run(1);
        Checks.due("stopReason", y.stopReason(), 2);
        y.restoreSnapshot(0);
        Checks.due("stopReason before the stop", y.stopReason(), 0);
        Checks.due("stops before the stop", y.state(7), 0);
    }

    /** "A successful parse restores the initial situation, clears the undo history and empties both slots." */
    private static void parseThatSucceeds() {
        CountedPendulum x = stopped();
        x.saveSnapshot(0);
        x.saveSnapshot(1);
        x.setForce(9);
        Checks.due("parse", Plants.parse(x, "region 9 9 0 1;"), 0);
        Checks.due("undo", x.undo(), RailPendulum.NONE);
        Checks.throwsState("slot 0", () -> x.restoreSnapshot(0));
        Checks.throwsState("slot 1", () -> x.restoreSnapshot(1));
        Checks.sameText("the initial situation", Plants.shown(x), Plants.shown(Plants.plant("region 9 9 0 1;")));
        Checks.due("no earlier one", x.saveSnapshot(0), false);
        Checks.due("no earlier one", x.saveSnapshot(1), false);
        CountedPendulum z = flickering("20 200 50");
        z.run(21);
        Checks.due("lock", z.state(4), 50);
        Checks.due("parse", Plants.parse(z, ""), 0);
        Checks.due("lock", z.state(4), 0);
        CountedPendulum y = flickering("20 21 0");
        y.run(250);
        Checks.due("a switch in each tick", y.switchesIn(200), 200);
        Checks.due("parse", Plants.parse(y, "region 9 9 0 1;"), 0);
        Checks.sameText("the initial situation", Plants.shown(y), Plants.shown(Plants.plant("region 9 9 0 1;")));
        for (int tick = 1; tick <= 200; tick++) {
            y.run(1);
            Checks.due("no switches", y.switchesIn(200), 0);
        }
    }

    /** A switch in each tick of swing-up and balance, but for those of a lock. */
    private static CountedPendulum flickering(String numbers) {
        CountedPendulum x = Plants.at("gravity 0 0; damping 0 0; couple 0; gains 0 0 0 0 0 0; push 0 0 1; rail 9999;"
                + "region 100 100 0 1; limit 20 9999; chatter " + numbers + ";", 30, 30, 0, 0);
        x.setMode(1);
        return x;
    }

    /** "a snapshot holds everything that changes can change": a single switch, as long ago as it can count. */
    private static void switchesOfASnapshot() {
        for (int since : new int[] {1, 2, 63, 64, 65, 127, 128, 129, 191, 192, 193, 199, 200}) {
            CountedPendulum x = flickering("20 200 9");
            x.run(1);
            x.setMode(0);
            if (since > 1) {
                x.run(since - 1);
            }
            x.saveSnapshot(0);
            x.setMode(1);
            x.run(9);
            x.setMode(0);
            x.run(291);
            Checks.due("long ago", x.switchesIn(200), 0);
            Checks.due("switches", x.state(6), 10);
            for (int way = 0; way <= 1; way++) {
                if (way == 0) {
                    for (int k = 0; k < 4; k++) {
                        x.undo();
                    }
                } else {
                    x.restoreSnapshot(0);
                }
                Checks.due("switches", x.state(6), 1);
                Checks.due("within " + since, x.switchesIn(since), 1);
                Checks.due("within 200", x.switchesIn(200), 1);
                if (since > 1) {
                    Checks.due("too long ago for " + (since - 1), x.switchesIn(since - 1), 0);
                }
                if (since < 200) {
                    x.run(200 - since);
                    Checks.due("the first of 200", x.switchesIn(200), 1);
                }
                x.run(1);
                Checks.due("too long ago for 200", x.switchesIn(200), 0);
            }
        }
    }

    /** "On a parse error nothing changes except that the buffer is emptied" */
    private static void parseThatFails() {
        CountedPendulum x = stopped();
        x.saveSnapshot(1);
        x.setForce(9);
        String before = Plants.shown(x);
        String[] texts = {"push 1 1 8; region 9 9 3 1; limit 1 1; rail 0;", "push 1 1 8; push", "push 1 1 8"};
        int[] codes = {3, 2, 1};
        for (int k = 0; k < texts.length; k++) {
            Checks.due("parse", Plants.parse(x, texts[k]), codes[k]);
        }
        Checks.sameText("nothing changed", Plants.shown(x), before);
        Checks.throwsState("slot 0", () -> x.restoreSnapshot(0));
        Checks.due("undo", x.undo(), 3);
        Checks.due("force", x.state(5), 60);
        Checks.due("slot 1", x.restoreSnapshot(1), 1);
    }

    /** "A method that throws an exception changes nothing." */
    private static void refusedCallsChangeNothing() {
        CountedPendulum x = stopped();
        CountedPendulum y = stopped();
        Plants.append(x, "push 1 1 7;");
        Plants.append(y, "push 1 1 7;");
        refusals(x);
        Checks.throwsIndex("energy", () -> x.energy(3));
        Checks.throwsIndex("reason", () -> x.reason(1, 0));
        Checks.throwsArgument("switchesIn", () -> x.switchesIn(201));
        Checks.throwsArgument("linkAfter", () -> x.linkAfter(1, 0, 1001));
        Checks.sameText("nothing changed", Plants.shown(x), Plants.shown(y));
        Checks.due("errorPosition", x.errorPosition(), -1);
        Checks.due("the buffer", x.append(0x20202020, 0x20202020, 0x20202020, 0x20202020, 0x20202020), 40);
        Checks.due("the history", x.undo(), y.undo());
        Checks.due("its text", x.parse(40), 0);
        Checks.due("its text", x.state(5), 7);
    }

    /** "which is checked before any other exception" */
    private static void indexIsCheckedFirst() {
        CountedPendulum x = stopped();
        Checks.throwsIndex("link", () -> x.link(3, 3));
        Checks.throwsIndex("cellOf", () -> x.cellOf(3, 2));
        Checks.throwsIndex("linkAfter", () -> x.linkAfter(3, 3, 1001));
        Checks.throwsIndex("nudge", () -> x.nudge(3, 501));
        Checks.throwsIndex("restoreSnapshot", () -> x.restoreSnapshot(2));
        Checks.throwsIndex("restoreSnapshot", () -> x.restoreSnapshot(-1));
    }

    /** "An object is used for at most 512 calls after it has been made": the last of them is as good as the first. */
    private static void the512thCall() {
        CountedPendulum ticks = Plants.plant(SMALL);
        int ran = 0;
        while (ticks.callsLeft() > 1) {
            ticks.run(19);
            ran += 19;
        }
        Checks.due("tick", ticks.state(0), ran);

        CountedPendulum changes = Plants.plant(SMALL);
        int resets = 0;
        while (changes.callsLeft() > 11) {
            changes.reset(resets, 0);
            resets++;
        }
        for (int left = 9; left >= 0; left--) {
            Checks.due("undo", changes.undo(), left);
        }
        Checks.due("angle", changes.link(1, 0), resets - 11);

        CountedPendulum ahead = Plants.at(SMALL, 100, 100, 0, 0);
        int after = ahead.linkAfter(1, 0, 1);
        while (ahead.callsLeft() > 1) {
            ahead.linkAfter(1, 0, 1000);
        }
        Checks.due("linkAfter", ahead.linkAfter(1, 0, 1), after);
    }

    private static void the512thCallOfTheDearest() {
        CountedPendulum forces = Plants.plant("gravity 0 0; damping 0 0; couple 0; push 0 0 60;"
                + "gains 99 0 99 0 0 0; region 100 100 3 200; limit 2000 9999; rail 9999;");
        int strong = forces.setForce(500);
        int weak = forces.setForce(1);
        Checks.due("two forces", strong != weak, true);
        while (forces.callsLeft() > 2) {
            forces.setForce(1 + forces.callsLeft() % 500);
        }
        Checks.due("setForce", forces.setForce(500), strong);
        Checks.due("setForce", forces.setForce(1), weak);

        CountedPendulum texts = new CountedPendulum();
        while (texts.callsLeft() > 4) {
            Checks.due("parse", Plants.parse(texts, "rail 5;#"), 1);
            Checks.due("parse", Plants.parse(texts, "push 1 1 9;"), 0);
        }
        Checks.due("parse", Plants.parse(texts, "push 1 1 5;"), 0);
        Checks.due("errorPosition", texts.errorPosition(), -1);
        Checks.due("force", texts.state(5), 5);

        CountedPendulum slots = Plants.plant(SMALL);
        while (slots.callsLeft() > 4) {
            slots.run(1);
            slots.saveSnapshot(slots.callsLeft() % 2);
            slots.undo();
        }
        while (slots.callsLeft() > 1) {
            slots.run(1);
        }
        Checks.due("restore", slots.restoreSnapshot(0), 1);
    }
}
