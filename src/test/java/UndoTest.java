/** Promises 29 to 31: undo, saveSnapshot, restoreSnapshot. */
public final class UndoTest {
    public static void main(String[] args) {
        eachChangeIsUndone();
        atMostTen();
        undoAndGoOn();
        whatIsNoChange();
        snapshots();
        snapshotsHoldAll();
        switchesComeBack();
        slotsApart();
        wrongSlots();
        Checks.finish();
    }

    /** An object in which every part of the situation has some value of its own. */
    private static CountedPendulum lively() {
        CountedPendulum x = Plants.plant("gravity 0 0; damping 0 0; push 0 0 80; couple 0; gains 9 0 9 0 0 0; rail 900;"
                + "region 100 100 1 9; limit 20 700; chatter 1 9 500;");
        x.reset(30, 30);
        x.setMode(1);
        x.nudge(1, 3);
        x.run(3);
        return x;
    }

    private static void eachChangeIsUndone() {
        for (int kept = 0; kept <= 6; kept++) {
            CountedPendulum x = lively();
            firstChanges(x, 6);
            for (int k = 5; k >= kept; k--) {
                Checks.due("changes left", x.undo(), k + 4);
            }
            CountedPendulum y = lively();
            firstChanges(y, kept);
            Checks.sameText("undone to " + kept, Plants.shown(x), Plants.shown(y));
        }
        CountedPendulum x = lively();
        for (int k = 3; k >= 0; k--) {
            Checks.due("changes left", x.undo(), k);
        }
        Checks.due("none left", x.undo(), -1);
        Checks.due("none left", x.undo(), -1);
        Checks.due("as at the beginning", x.state(8), 0);
        Checks.due("as at the beginning", x.state(0), 0);
        Checks.due("as at the beginning", x.link(1, 0), 2048);
    }

    private static void firstChanges(CountedPendulum x, int howMany) {
        for (int k = 0; k < howMany; k++) {
            switch (k) {
                case 0: Checks.due("run: stopped", x.run(300), 3); break;
                case 1: Checks.due("reset", x.reset(5, 6), 3); break;
                case 2: Checks.due("setMode", x.setMode(2), 0); break;
                case 3: Checks.due("nudge", x.nudge(2, -77), -77); break;
                case 4: Checks.due("setForce", x.setForce(1), x.regionSize()); break;
                default: x.run(1); break;
            }
        }
    }

    private static void atMostTen() {
        CountedPendulum x = new CountedPendulum();
        for (int k = 1; k <= 25; k++) {
            x.run(k);
        }
        int tick = x.state(0);
        Checks.due("tick", tick, 325);
        for (int k = 9; k >= 0; k--) {
            Checks.due("changes left", x.undo(), k);
            tick -= 16 + k;
            Checks.due("tick", x.state(0), tick);
        }
        Checks.due("none left", x.undo(), -1);
        Checks.due("tick stays", x.state(0), 120);
    }

    private static void undoAndGoOn() {
        CountedPendulum x = new CountedPendulum();
        for (int k = 1; k <= 8; k++) {
            x.reset(k, k);
        }
        Checks.due("left", x.undo(), 7);
        Checks.due("left", x.undo(), 6);
        Checks.due("angle", x.link(1, 0), 6);
        x.reset(70, 70);
        x.reset(80, 80);
        x.reset(90, 90);
        Checks.due("left", x.undo(), 8);
        Checks.due("angle", x.link(1, 0), 80);
        Checks.due("left", x.undo(), 7);
        Checks.due("left", x.undo(), 6);
        Checks.due("angle", x.link(1, 0), 6);
        Checks.due("resets", x.state(8), 6);
        Checks.due("left", x.undo(), 5);
        Checks.due("angle", x.link(1, 0), 5);
    }

    private static void whatIsNoChange() {
        CountedPendulum x = new CountedPendulum();
        x.run(1);
        x.append(1, 2, 3, 4, 5);
        x.parse(20);
        x.saveSnapshot(0);
        x.push();
        x.farthest(5);
        Checks.due("only run was a change", x.undo(), 0);
        Checks.due("errorPosition is not undone", x.errorPosition(), 0);
        Checks.due("nor is a snapshot", x.restoreSnapshot(0), 1);
        x.setMode(0);
        x.nudge(1, 0);
        x.setForce(60);
        Checks.due("a change to the same is one", x.undo(), 2);
    }

    private static void snapshots() {
        CountedPendulum x = new CountedPendulum();
        Checks.throwsState("empty", () -> x.restoreSnapshot(0));
        x.run(5);
        Checks.due("no earlier one", x.saveSnapshot(0), false);
        x.run(6);
        x.run(7);
        Checks.due("restore", x.restoreSnapshot(0), 5);
        Checks.due("tick", x.state(0), 5);
        Checks.due("the history is cleared", x.undo(), -1);
        Checks.due("tick", x.state(0), 5);
        x.run(1);
        Checks.due("it stays stored", x.restoreSnapshot(0), 5);
        Checks.due("an earlier one", x.saveSnapshot(0), true);
        x.run(10);
        Checks.due("in place of it", x.saveSnapshot(0), true);
        x.run(10);
        Checks.due("restore", x.restoreSnapshot(0), 15);
        x.run(1);
        Checks.due("changes after it can be undone", x.undo(), 0);
        Checks.due("tick", x.state(0), 15);
        Checks.due("an undo leaves the slot", x.restoreSnapshot(0), 15);
    }

    private static void snapshotsHoldAll() {
        CountedPendulum x = lively();
        x.saveSnapshot(1);
        String before = Plants.shown(x);
        x.run(300);
        x.reset(1, 2);
        x.setForce(2);
        x.nudge(1, 9);
        x.nudge(2, 9);
        x.setMode(2);
        x.run(3);
        Checks.due("much has changed", Plants.shown(x).equals(before), false);
        Checks.due("restore", x.restoreSnapshot(1), 3);
        Checks.sameText("all is as before", Plants.shown(x), before);
        for (int ticks = 3; ticks <= 120; ticks += 3) {
            CountedPendulum y = lively();
            y.saveSnapshot(1);
            y.run(300);
            y.setForce(2);
            y.restoreSnapshot(1);
            y.run(ticks);
            CountedPendulum z = lively();
            z.run(ticks);
            Checks.sameText("and goes on so", Plants.shown(y), Plants.shown(z));
        }
        // A stop that the snapshot holds comes back as well.
        CountedPendulum v = lively();
        v.run(500);
        Checks.due("stopped", v.state(1), 3);
        v.saveSnapshot(0);
        v.reset(0, 0);
        v.restoreSnapshot(0);
        Checks.due("stopped again", v.state(1), 3);
        Checks.due("by the rail's end", v.stopReason(), 1);
    }

    /** The switches of the latest 200 ticks come back, even after ticks that have pushed them out. */
    private static void switchesComeBack() {
        CountedPendulum x = withManySwitches();
        x.setMode(0);
        x.run(300);
        Checks.due("all pushed out", x.switchesIn(200), 0);
        x.undo();
        x.undo();
        manySwitches("undone", x);
        CountedPendulum y = withManySwitches();
        y.saveSnapshot(0);
        y.setMode(0);
        y.run(300);
        Checks.due("all pushed out", y.switchesIn(200), 0);
        y.restoreSnapshot(0);
        manySwitches("restored", y);
    }

    /** A switch in each of 130 ticks, none in 7, one in each of 101. */
    private static CountedPendulum withManySwitches() {
        CountedPendulum x = Plants.plant("rail 9999; gravity 0 0; damping 0 0; push 0 0 1; couple 0; gains 0 0 0 0 0 0;"
                + "region 100 100 0 1; limit 20 9999; chatter 20 20 0;");
        x.reset(30, 30);
        x.setMode(1);
        x.run(130);
        x.setMode(0);
        x.run(7);
        x.setMode(1);
        x.run(101);
        return x;
    }

    private static void manySwitches(String what, CountedPendulum x) {
        for (int ticks = 1; ticks <= 200; ticks++) {
            Checks.due(what + ": switchesIn " + ticks, x.switchesIn(ticks), ticks <= 101 ? ticks : Math.max(101, ticks - 7));
        }
        Checks.due(what + ": switches", x.state(6), 231);
    }

    private static void slotsApart() {
        CountedPendulum x = new CountedPendulum();
        x.run(1);
        Checks.due("slot 1", x.saveSnapshot(1), false);
        x.run(1);
        Checks.due("slot 0", x.saveSnapshot(0), false);
        x.run(1);
        Checks.due("slot 1", x.restoreSnapshot(1), 1);
        Checks.due("slot 0", x.restoreSnapshot(0), 2);
        Checks.due("slot 1", x.saveSnapshot(1), true);
        Checks.due("slot 1", x.restoreSnapshot(1), 2);
    }

    private static void wrongSlots() {
        CountedPendulum x = new CountedPendulum();
        for (int wrong : new int[] {-1, 2, Integer.MIN_VALUE, Integer.MAX_VALUE}) {
            Checks.throwsIndex("saveSnapshot " + wrong, () -> x.saveSnapshot(wrong));
            Checks.throwsIndex("restoreSnapshot " + wrong, () -> x.restoreSnapshot(wrong));
        }
        x.saveSnapshot(0);
        Checks.throwsState("slot 1 is empty still", () -> x.restoreSnapshot(1));
    }
}
