/**
 * A RailPendulum whose calls are counted: the document promises nothing about an object after its
 * 512th call, so that a test that makes one more is wrong itself.
 */
final class CountedPendulum {
    static final int PROMISED_CALLS = 512;

    private final RailPendulum x = new RailPendulum();
    private int calls = 0;

    int callsLeft() {
        return PROMISED_CALLS - calls;
    }

    private RailPendulum used() {
        if (callsLeft() == 0) {
            throw new AssertionError("the test makes more calls of an object than the document promises");
        }
        calls++;
        return x;
    }

    int append(int a, int b, int c, int d, int e) {
        return used().append(a, b, c, d, e);
    }

    int parse(int length) {
        return used().parse(length);
    }

    int errorPosition() {
        return used().errorPosition();
    }

    int sine(int angle) {
        return used().sine(angle);
    }

    int lean(int angle) {
        return used().lean(angle);
    }

    int state(int what) {
        return used().state(what);
    }

    int link(int link, int what) {
        return used().link(link, what);
    }

    long energy(int link) {
        return used().energy(link);
    }

    int target(int link) {
        return used().target(link);
    }

    int push() {
        return used().push();
    }

    int stopReason() {
        return used().stopReason();
    }

    int switchesIn(int ticks) {
        return used().switchesIn(ticks);
    }

    int reason(int i, int j) {
        return used().reason(i, j);
    }

    int failedStep(int i, int j) {
        return used().failedStep(i, j);
    }

    int regionSize() {
        return used().regionSize();
    }

    int cellsWith(int reason) {
        return used().cellsWith(reason);
    }

    int cellOf(int link, int what) {
        return used().cellOf(link, what);
    }

    boolean isCapturable() {
        return used().isCapturable();
    }

    int ticksToBalance(int limit) {
        return used().ticksToBalance(limit);
    }

    int ticksToStop(int limit) {
        return used().ticksToStop(limit);
    }

    int farthest(int ticks) {
        return used().farthest(ticks);
    }

    int linkAfter(int link, int what, int ticks) {
        return used().linkAfter(link, what, ticks);
    }

    int run(int ticks) {
        return used().run(ticks);
    }

    int setMode(int mode) {
        return used().setMode(mode);
    }

    int reset(int a1, int a2) {
        return used().reset(a1, a2);
    }

    int nudge(int link, int amount) {
        return used().nudge(link, amount);
    }

    int setForce(int force) {
        return used().setForce(force);
    }

    int undo() {
        return used().undo();
    }

    boolean saveSnapshot(int slot) {
        return used().saveSnapshot(slot);
    }

    int restoreSnapshot(int slot) {
        return used().restoreSnapshot(slot);
    }
}
