/** Promises 29 to 31: undo, saveSnapshot, restoreSnapshot. */
public final class UndoTest {
    public static void main(String[] args) {
        eachChangeIsUndone();
        atMostTen();
        undoAndGoOn();
        whatIsNoChange();
        snapshots();
        snapshotsHoldAll();
        switchesComeBack();
        slotsApart();
        wrongSlots();
        Checks.finish();
    }

    /** An object in which every part of the situation has some value of its own. */
    private static RailPendulum lively() {
        RailPendulum x = Plants.plant("gravity 0 0; damping 0 0; push 0 0 80; couple 0; gains 9 0 9 0 0 0; rail 900;"
                + "region 100 100 1 9; limit 20 700; chatter 1 9 500;");
        x.reset(30, 30);
        x.setMode(1);
        x.nudge(1, 3);
        x.run(3);
        return x;
    }

    private static void eachChangeIsUndone() {
        RailPendulum x = lively();
        String[] before = new String[6];
        before[0] = Plants.shown(x);
        x.run(300);
        before[1] = Plants.shown(x);
        Checks.due("stopped meanwhile", x.state(1), 3);
        x.reset(5, 6);
        before[2] = Plants.shown(x);
        x.setMode(2);
        before[3] = Plants.shown(x);
        x.nudge(2, -77);
        before[4] = Plants.shown(x);
        x.setForce(1);
        before[5] = Plants.shown(x);
        x.run(1);
        for (int k = 5; k >= 0; k--) {
            Checks.due("changes left", x.undo(), k + 4);
            Checks.sameText("undone to " + k, Plants.shown(x), before[k]);
        }
        for (int k = 3; k >= 0; k--) {
            Checks.due("changes left", x.undo(), k);
        }
        Checks.due("none left", x.undo(), -1);
        Checks.due("none left", x.undo(), -1);
        Checks.due("as at the beginning", x.state(8), 0);
        Checks.due("as at the beginning", x.state(0), 0);
        Checks.due("as at the beginning", x.link(1, 0), 2048);
    }

    private static void atMostTen() {
        RailPendulum x = new RailPendulum();
        for (int k = 1; k <= 25; k++) {
            x.run(k);
        }
        int tick = x.state(0);
        Checks.due("tick", tick, 325);
        for (int k = 9; k >= 0; k--) {
            Checks.due("changes left", x.undo(), k);
            tick -= 16 + k;
            Checks.due("tick", x.state(0), tick);
        }
        Checks.due("none left", x.undo(), -1);
        Checks.due("tick stays", x.state(0), 120);
    }

    private static void undoAndGoOn() {
        RailPendulum x = new RailPendulum();
        for (int k = 1; k <= 8; k++) {
            x.reset(k, k);
        }
        Checks.due("left", x.undo(), 7);
        Checks.due("left", x.undo(), 6);
        Checks.due("angle", x.link(1, 0), 6);
        x.reset(70, 70);
        x.reset(80, 80);
        x.reset(90, 90);
        Checks.due("left", x.undo(), 8);
        Checks.due("angle", x.link(1, 0), 80);
        Checks.due("left", x.undo(), 7);
        Checks.due("left", x.undo(), 6);
        Checks.due("angle", x.link(1, 0), 6);
        Checks.due("resets", x.state(8), 6);
        Checks.due("left", x.undo(), 5);
        Checks.due("angle", x.link(1, 0), 5);
    }

    private static void whatIsNoChange() {
        RailPendulum x = new RailPendulum();
        x.run(1);
        x.append(1, 2, 3, 4, 5);
        x.parse(20);
        x.saveSnapshot(0);
        x.push();
        x.farthest(5);
        Checks.due("only run was a change", x.undo(), 0);
        Checks.due("errorPosition is not undone", x.errorPosition(), 0);
        Checks.due("nor is a snapshot", x.restoreSnapshot(0), 1);
        x.setMode(0);
        x.nudge(1, 0);
        x.setForce(60);
        Checks.due("a change to the same is one", x.undo(), 2);
    }

    private static void snapshots() {
        RailPendulum x = new RailPendulum();
        Checks.throwsState("empty", () -> x.restoreSnapshot(0));
        x.run(5);
        Checks.due("no earlier one", x.saveSnapshot(0), false);
        x.run(6);
        x.run(7);
        Checks.due("restore", x.restoreSnapshot(0), 5);
        Checks.due("tick", x.state(0), 5);
        Checks.due("the history is cleared", x.undo(), -1);
        Checks.due("tick", x.state(0), 5);
        x.run(1);
        Checks.due("it stays stored", x.restoreSnapshot(0), 5);
        Checks.due("an earlier one", x.saveSnapshot(0), true);
        x.run(10);
        Checks.due("in place of it", x.saveSnapshot(0), true);
        x.run(10);
        Checks.due("restore", x.restoreSnapshot(0), 15);
        x.run(1);
        Checks.due("changes after it can be undone", x.undo(), 0);
        Checks.due("tick", x.state(0), 15);
        Checks.due("an undo leaves the slot", x.restoreSnapshot(0), 15);
    }

    private static void snapshotsHoldAll() {
        RailPendulum x = lively();
        x.saveSnapshot(1);
        String before = Plants.shown(x);
        x.run(300);
        x.reset(1, 2);
        x.setForce(2);
        x.nudge(1, 9);
        x.nudge(2, 9);
        x.setMode(2);
        x.run(3);
        Checks.due("much has changed", Plants.shown(x).equals(before), false);
        Checks.due("restore", x.restoreSnapshot(1), 3);
        Checks.sameText("all is as before", Plants.shown(x), before);
        RailPendulum y = lively();
        for (int k = 0; k < 40; k++) {
            x.run(3);
            y.run(3);
            Checks.sameText("and goes on so", Plants.shown(x), Plants.shown(y));
        }
        // A stop that the snapshot holds comes back as well.
        x.run(400);
        Checks.due("stopped", x.state(1), 3);
        x.saveSnapshot(0);
        x.reset(0, 0);
        x.restoreSnapshot(0);
        Checks.due("stopped again", x.state(1), 3);
        Checks.due("by the rail's end", x.stopReason(), 1);
    }

    /** The switches of the latest 200 ticks come back, even after ticks that have pushed them out. */
    private static void switchesComeBack() {
        RailPendulum x = Plants.plant("rail 9999; gravity 0 0; damping 0 0; push 0 0 1; couple 0; gains 0 0 0 0 0 0;"
                + "region 100 100 0 1; limit 20 9999; chatter 20 20 0;");
        x.reset(30, 30);
        x.setMode(1);
        x.run(130);
        x.setMode(0);
        x.run(7);
        x.setMode(1);
        x.run(101);
        int[] counts = new int[201];
        for (int ticks = 1; ticks <= 200; ticks++) {
            counts[ticks] = x.switchesIn(ticks);
            Checks.due("switchesIn " + ticks, counts[ticks], ticks <= 101 ? ticks : Math.max(101, ticks - 7));
        }
        x.saveSnapshot(0);
        x.setMode(0);
        x.run(300);
        Checks.due("all pushed out", x.switchesIn(200), 0);
        x.undo();
        x.undo();
        for (int ticks = 1; ticks <= 200; ticks++) {
            Checks.due("undone: switchesIn " + ticks, x.switchesIn(ticks), counts[ticks]);
        }
        x.setMode(0);
        x.run(300);
        x.restoreSnapshot(0);
        for (int ticks = 1; ticks <= 200; ticks++) {
            Checks.due("restored: switchesIn " + ticks, x.switchesIn(ticks), counts[ticks]);
        }
        Checks.due("restored: switches", x.state(6), 231);
    }

    private static void slotsApart() {
        RailPendulum x = new RailPendulum();
        x.run(1);
        Checks.due("slot 1", x.saveSnapshot(1), false);
        x.run(1);
        Checks.due("slot 0", x.saveSnapshot(0), false);
        x.run(1);
        Checks.due("slot 1", x.restoreSnapshot(1), 1);
        Checks.due("slot 0", x.restoreSnapshot(0), 2);
        Checks.due("slot 1", x.saveSnapshot(1), true);
        Checks.due("slot 1", x.restoreSnapshot(1), 2);
    }

    private static void wrongSlots() {
        RailPendulum x = new RailPendulum();
        for (int wrong : new int[] {-1, 2, Integer.MIN_VALUE, Integer.MAX_VALUE}) {
            Checks.throwsIndex("saveSnapshot " + wrong, () -> x.saveSnapshot(wrong));
            Checks.throwsIndex("restoreSnapshot " + wrong, () -> x.restoreSnapshot(wrong));
        }
        x.saveSnapshot(0);
        Checks.throwsState("slot 1 is empty still", () -> x.restoreSnapshot(1));
    }
}
