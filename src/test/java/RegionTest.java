/** Promises 14 to 19: reason, failedStep, regionSize, cellsWith, cellOf, isCapturable. */
public final class RegionTest {
    // Nothing but the speeds moves the links, and nothing pushes the cart.
    private static final String FREE = "gravity 0 0; damping 0 0; push 0 0 1; couple 0; gains 0 0 0 0 0 0; ";

    public static void main(String[] args) {
        freeLinks();
        railEnd();
        overspeed();
        smallestCodeInAStep();
        whichHappensFirst();
        onlyAngles();
        forceOfNow();
        cells();
        cellsOfLinks();
        capturable();
        Checks.finish();
    }

    private static void freeLinks() {
        // In 4 steps, a speed of 160 turns by 40 and one of 320 by 80.
        CountedPendulum x = Plants.plant(FREE + "region 100 160 2 4; limit 270 1000;");
        int[][] reasons = {
            // j = -2, -1, 0, 1, 2 for i = -2 to 2
            {3, 4, 4, 4, 4},
            {4, 4, 0, 0, 0},
            {0, 0, 0, 0, 0},
            {0, 0, 0, 4, 4},
            {4, 4, 4, 4, 3},
        };
        for (int i = -2; i <= 2; i++) {
            for (int j = -2; j <= 2; j++) {
                Checks.due("reason " + i + " " + j, x.reason(i, j), reasons[i + 2][j + 2]);
                Checks.due("failedStep " + i + " " + j, x.failedStep(i, j), reasons[i + 2][j + 2] == 3 ? 4 : -1);
            }
        }
        Checks.due("regionSize", x.regionSize(), 11);
        Checks.due("cellsWith 0", x.cellsWith(0), 11);
        Checks.due("cellsWith 1", x.cellsWith(1), 0);
        Checks.due("cellsWith 2", x.cellsWith(2), 0);
        Checks.due("cellsWith 3", x.cellsWith(3), 2);
        Checks.due("cellsWith 4", x.cellsWith(4), 12);
        for (int other : new int[] {-1, 5, Integer.MIN_VALUE, Integer.MAX_VALUE}) {
            Checks.due("cellsWith " + other, x.cellsWith(other), 0);
        }
        // The edges themselves: 200 + 80 is not above a limit of 280, and 100 not above a region of 100.
        CountedPendulum y = Plants.plant(FREE + "region 100 160 2 4; limit 280 1000;");
        Checks.due("just the limit", y.reason(2, 2), 4);
        Checks.due("just the limit", y.reason(-2, -2), 4);
        Checks.due("just the region", y.reason(1, 0), 0);
        Checks.due("just the region", y.reason(-1, 0), 0);
    }

    private static void railEnd() {
        // The push is the force, 80, in each step: x is 10, 30, 60 behind the steps.
        CountedPendulum x = Plants.plant("rail 59; gravity 0 0; damping 0 0; push 0 0 80; couple 0; gains 99 0 0 0 0 0;"
                + "region 100 1 1 9; limit 2000 100;");
        Checks.due("reason", x.reason(1, 0), 1);
        Checks.due("failedStep", x.failedStep(1, 0), 3);
        Checks.due("reason to the left", x.reason(-1, 0), 1);
        Checks.due("failedStep to the left", x.failedStep(-1, 0), 3);
        Checks.due("upright", x.reason(0, 0), 0);
        Checks.due("upright", x.failedStep(0, 0), -1);
        CountedPendulum y = Plants.plant("rail 60; gravity 0 0; damping 0 0; push 0 0 80; couple 0; gains 99 0 0 0 0 0;"
                + "region 100 1 1 3; limit 2000 100;");
        Checks.due("just the end", y.reason(1, 0), 0);
        Checks.due("just the end", y.reason(-1, 0), 0);
    }

    private static void overspeed() {
        CountedPendulum x = Plants.plant(FREE + "region 500 100 3 5; limit 2000 200;");
        Checks.due("beyond", x.reason(0, 3), 2);
        Checks.due("beyond", x.failedStep(0, 3), 1);
        Checks.due("beyond", x.reason(0, -3), 2);
        Checks.due("just the limit", x.reason(0, 2), 0);
        Checks.due("just the limit", x.reason(0, -2), 0);
    }

    private static void smallestCodeInAStep() {
        CountedPendulum all = Plants.plant("rail 9; gravity 0 0; damping 0 0; push 0 0 80; couple 0; gains 99 0 0 0 0 0;"
                + "region 100 100 1 9; limit 50 50;");
        Checks.due("a rail end", all.reason(1, 1), 1);
        Checks.due("in the first step", all.failedStep(1, 1), 1);
        Checks.due("overspeed", Plants.plant(FREE + "region 100 100 1 9; limit 50 50;").reason(1, 1), 2);
        Checks.due("a lean", Plants.plant(FREE + "region 100 100 1 9; limit 50 100;").reason(1, 1), 3);
    }

    private static void whichHappensFirst() {
        // The lean is beyond the limit in step 2 (100 + 50 * 2), the cart at the end in step 3.
        CountedPendulum x = Plants.plant("rail 59; gravity 0 0; damping 0 0; push 0 0 80; couple 0; gains 99 0 0 0 0 0;"
                + "region 100 400 1 9; limit 149 900;");
        Checks.due("reason", x.reason(1, 1), 3);
        Checks.due("failedStep", x.failedStep(1, 1), 2);
        CountedPendulum y = Plants.plant("rail 59; gravity 0 0; damping 0 0; push 0 0 80; couple 0; gains 99 0 0 0 0 0;"
                + "region 100 400 1 9; limit 199 900;");
        Checks.due("reason", y.reason(1, 1), 1);
        Checks.due("failedStep", y.failedStep(1, 1), 3);
    }

    private static void onlyAngles() {
        // The first lean is not looked at, only the lean behind a step: here 2000 - 31.
        CountedPendulum x = Plants.plant(FREE + "region 500 500 3 1; limit 1499 9999;");
        Checks.due("leaves the limit", x.reason(3, -1), 4);
        Checks.due("stays beyond the limit", x.reason(3, 0), 3);
        Checks.due("stays beyond the limit", x.failedStep(3, 0), 1);
        Checks.due("leaves the limit", x.reason(-3, 1), 4);
        Checks.due("stays beyond the limit", x.reason(-3, 0), 3);
    }

    private static void forceOfNow() {
        String text = "rail 59; gravity 0 0; damping 0 0; push 0 0 80; couple 0; gains 99 0 99 0 0 0;"
                + "region 100 1 1 3; limit 2000 100;";
        CountedPendulum x = Plants.plant(text);
        Checks.due("reason by the first force", x.reason(1, 0), 1);
        Checks.due("regionSize", x.regionSize(), 3);
        x.run(50);
        x.reset(300, 3);
        Checks.due("other changes try nothing anew", x.regionSize(), 3);
        Checks.due("setForce", x.setForce(40), 9);
        Checks.due("reason by the new force", x.reason(1, 0), 0);
        Checks.due("failedStep by the new force", x.failedStep(1, 0), -1);
        Checks.due("regionSize", x.regionSize(), 9);
        Checks.due("setForce", x.setForce(500), 3);
        Checks.due("failedStep by a push of 309", x.failedStep(1, 0), 2);
        x.undo();
        Checks.due("undone", x.reason(1, 0), 0);
        Checks.due("undone", x.failedStep(1, 0), -1);
        x.undo();
        Checks.due("undone", x.reason(1, 0), 1);
        Checks.due("undone", x.failedStep(1, 0), 3);
        Checks.due("undone", x.regionSize(), 3);
    }

    private static void cells() {
        for (int count = 0; count <= 3; count++) {
            CountedPendulum x = Plants.plant("region 9 9 " + count + " 3;");
            int inAll = (2 * count + 1) * (2 * count + 1);
            int sum = 0;
            for (int reason = 0; reason <= 4; reason++) {
                sum += x.cellsWith(reason);
            }
            Checks.due("cells", sum, inAll);
            Checks.due("corner", x.reason(count, -count) >= 0, true);
            Checks.due("corner", x.failedStep(-count, count) >= -1, true);
            for (int beyond : new int[] {count + 1, -count - 1, Integer.MIN_VALUE, Integer.MAX_VALUE}) {
                Checks.throwsIndex("reason " + beyond, () -> x.reason(beyond, 0));
                Checks.throwsIndex("reason " + beyond, () -> x.reason(0, beyond));
                Checks.throwsIndex("failedStep " + beyond, () -> x.failedStep(beyond, 0));
                Checks.throwsIndex("failedStep " + beyond, () -> x.failedStep(0, beyond));
            }
        }
    }

    private static void cellsOfLinks() {
        // An odd angle of 5: the cells end at 2.5, 7.5; an even speed of 4: at 2, which belongs above.
        CountedPendulum x = Plants.plant("region 5 4 1 1;");
        int[][] leans = {{0, 0}, {2, 0}, {3, 1}, {7, 1}, {8, 2}, {-2, 0}, {-3, -1}, {-7, -1}, {-8, -2}, {-2048, -410}};
        for (int[] one : leans) {
            x.reset(one[0] & 4095, 0);
            Checks.due("i of lean " + one[0], x.cellOf(1, 0), one[1]);
            Checks.due("i of the other", x.cellOf(2, 0), 0);
        }
        int[][] speeds = {{0, 0}, {1, 0}, {2, 1}, {5, 1}, {6, 2}, {-1, 0}, {-2, 0}, {-3, -1}, {-6, -1}, {-7, -2}, {500, 125}};
        for (int[] one : speeds) {
            x.reset(0, 0);
            x.nudge(2, one[0]);
            Checks.due("j of speed " + one[0], x.cellOf(2, 1), one[1]);
            Checks.due("j of the other", x.cellOf(1, 1), 0);
        }
        for (int link : new int[] {0, 3, -1, Integer.MAX_VALUE}) {
            Checks.throwsIndex("cellOf " + link, () -> x.cellOf(link, 0));
            Checks.throwsIndex("link is checked first", () -> x.cellOf(link, 2));
        }
        for (int what : new int[] {-1, 2, Integer.MIN_VALUE}) {
            Checks.throwsArgument("cellOf 1 " + what, () -> x.cellOf(1, what));
        }
    }

    private static void capturable() {
        // As in freeLinks, but the limit lets only cells (0, j) and some of (1, j) and (-1, j) be verified.
        CountedPendulum x = Plants.plant(FREE + "region 100 160 2 4; limit 270 1000;");
        Checks.due("hanging", x.isCapturable(), false);
        x.reset(0, 0);
        Checks.due("upright", x.isCapturable(), true);
        x.reset(100, 4000);
        Checks.due("(1, 0) and (-1, 0)", x.isCapturable(), true);
        x.nudge(1, 160);
        Checks.due("(1, 1) and (-1, 0)", x.isCapturable(), false);
        x.nudge(1, -320);
        Checks.due("(1, -1) and (-1, 0)", x.isCapturable(), true);
        x.nudge(2, -160);
        Checks.due("(1, -1) and (-1, -1)", x.isCapturable(), false);
        x.reset(0, 200);
        Checks.due("(0, 0) and (2, 0)", x.isCapturable(), false);
        x.reset(200, 0);
        Checks.due("(2, 0) and (0, 0)", x.isCapturable(), false);
        x.reset(0, 0);
        x.nudge(1, 399);
        Checks.due("(0, 2)", x.isCapturable(), true);
        x.nudge(1, 1);
        Checks.due("(0, 3) is beyond count", x.isCapturable(), false);
        x.nudge(1, -400);
        x.nudge(2, -400);
        Checks.due("(0, -2) at its edge", x.isCapturable(), true);
        x.nudge(2, -1);
        Checks.due("(0, -3) is beyond count", x.isCapturable(), false);

        CountedPendulum y = Plants.plant(FREE + "region 100 160 0 4;");
        y.reset(49, 4046);
        Checks.due("count 0", y.isCapturable(), true);
        y.reset(50, 0);
        Checks.due("count 0, (1, 0)", y.isCapturable(), false);
    }
}
