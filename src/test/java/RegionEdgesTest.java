/** What REGION and promises 14 to 19 say of boundaries: a test for each sentence, on both sides. */
public final class RegionEdgesTest {
    // Nothing moves a link but its own speed, and nothing pushes the cart.
    private static final String FREE = "gravity 0 0; damping 0 0; push 0 0 1; couple 0; gains 0 0 0 0 0 0; ";
    // In mode 2, the push is the lean of link 1 and 2 in half, and nothing but that moves the cart.
    private static final String LEANING = "gravity 0 0; damping 0 0; push 0 0 500; couple 0; gains 32 0 32 0 0 0; ";

    public static void main(String[] args) {
        cellsOfACount();
        noSuchCell();
        numbersOfReasons();
        anglesOfCells();
        speedsOfCells();
        cartOfATrial();
        railEndInATrial();
        overspeedInATrial();
        leanInATrial();
        leanOfEitherLink();
        leanBeforeTheFirstStep();
        smallestCodeOfAStep();
        earliestStep();
        lastStepOfTheHorizon();
        horizons();
        leanAtTheEnd();
        leanAtTheEndOfEitherLink();
        failedStepOfEachReason();
        forceOfATrial();
        cellOfALean();
        cellOfASpeed();
        cellOfTheOutermost();
        partsOfACell();
        capturableWithinCount();
        capturableIfVerified();
        capturableByBothLinks();
        Checks.finish();
    }

    private static void trial(String what, String text, int i, int j, int reason, int failedStep) {
        CountedPendulum x = Plants.plant(text);
        Checks.due(what + ": reason", x.reason(i, j), reason);
        Checks.due(what + ": failedStep", x.failedStep(i, j), failedStep);
    }

    /** "The cells of the region are (i, j), with i and j from -count to count"; "count 0 to 3". */
    private static void cellsOfACount() {
        for (int count = 0; count <= 3; count++) {
            CountedPendulum x = Plants.plant(FREE + "region 100 100 " + count + " 1; limit 2000 9999;");
            int found = 0;
            for (int i = -count; i <= count; i++) {
                for (int j = -count; j <= count; j++) {
                    // The angle of the region is 100; a speed of 100 turns by 6 in the only step.
                    boolean within = Math.abs(i * 100 + j * 100 / 16) <= 100;
                    Checks.due("reason of " + i + " " + j, x.reason(i, j), within ? 0 : 4);
                    Checks.due("failedStep of " + i + " " + j, x.failedStep(i, j), -1);
                    found += within ? 1 : 0;
                }
            }
            Checks.due("regionSize", x.regionSize(), found);
            Checks.due("cellsWith 0", x.cellsWith(0), found);
            Checks.due("cellsWith 4", x.cellsWith(4), (2 * count + 1) * (2 * count + 1) - found);
        }
    }

    /** Promises 14 and 15: "IndexOutOfBoundsException if there is no such cell". */
    private static void noSuchCell() {
        for (int count = 0; count <= 3; count++) {
            CountedPendulum x = Plants.plant("region 9 9 " + count + " 3;");
            int[] beyond = {count + 1, -count - 1, 4, -4, 7, Integer.MIN_VALUE, Integer.MAX_VALUE};
            for (int edge = -count; edge <= count; edge += Math.max(1, 2 * count)) {
                Checks.due("reason", x.reason(edge, edge) >= 0, true);
                Checks.due("reason", x.reason(edge, -edge) >= 0, true);
                Checks.due("failedStep", x.failedStep(edge, edge) >= -1, true);
                Checks.due("failedStep", x.failedStep(edge, -edge) >= -1, true);
                int there = edge;
                for (int out : beyond) {
                    Checks.throwsIndex("reason " + out + " " + there, () -> x.reason(out, there));
                    Checks.throwsIndex("reason " + there + " " + out, () -> x.reason(there, out));
                    Checks.throwsIndex("failedStep " + out + " " + there, () -> x.failedStep(out, there));
                    Checks.throwsIndex("failedStep " + there + " " + out, () -> x.failedStep(there, out));
                }
            }
            for (int out : beyond) {
                Checks.throwsIndex("reason " + out, () -> x.reason(out, out));
                Checks.throwsIndex("failedStep " + out, () -> x.failedStep(out, -out));
            }
        }
        // A region that was greater before is none any more.
        CountedPendulum y = Plants.plant("region 9 9 3 3;");
        Plants.parse(y, "region 9 9 1 3;");
        Checks.throwsIndex("reason of a former cell", () -> y.reason(2, 0));
        Checks.throwsIndex("failedStep of a former cell", () -> y.failedStep(0, -2));
    }

    /** Promise 17: "a given reason, 0 to 4; 0 for others". */
    private static void numbersOfReasons() {
        CountedPendulum x = Plants.plant(FREE + "region 100 100 1 1; limit 2000 9999;");
        Checks.due("cellsWith -1", x.cellsWith(-1), 0);
        Checks.due("cellsWith 0", x.cellsWith(0), 7);
        Checks.due("cellsWith 1", x.cellsWith(1), 0);
        Checks.due("cellsWith 2", x.cellsWith(2), 0);
        Checks.due("cellsWith 3", x.cellsWith(3), 0);
        Checks.due("cellsWith 4", x.cellsWith(4), 2);
        Checks.due("cellsWith 5", x.cellsWith(5), 0);
        Checks.due("cellsWith least", x.cellsWith(Integer.MIN_VALUE), 0);
        Checks.due("cellsWith most", x.cellsWith(Integer.MAX_VALUE), 0);
        Checks.due("regionSize", x.regionSize(), 7);
        // A plant that is upright and at rest stays so, and thus its only cell is verified.
        CountedPendulum single = Plants.plant("region 1 1 0 200; limit 1 1; rail 1;");
        Checks.due("a single cell", single.regionSize(), 1);
        Checks.due("a single cell", single.cellsWith(0), 1);
        Checks.due("a single cell", single.cellsWith(4), 0);
    }

    /** "both angles are (i * angle) mod 4096": below 0, and far out. */
    private static void anglesOfCells() {
        // A region's cell stays where it is, and its lean is beyond a limit that is one less than its angle.
        for (int i = 1; i <= 3; i++) {
            for (int sign = -1; sign <= 1; sign += 2) {
                trial("just the limit", FREE + "region 500 1 3 2; limit " + 500 * i + " 9999;", sign * i, 0, i == 1 ? 0 : 4, -1);
                trial("one less", FREE + "region 500 1 3 2; limit " + (500 * i - 1) + " 9999;", sign * i, 0, 3, 1);
            }
        }
        trial("the least angle", FREE + "region 1 1 3 2; limit 3 9999;", -3, 0, 4, -1);
        trial("the least angle", FREE + "region 1 1 3 2; limit 2 9999;", -3, 0, 3, 1);
        // Both links start there: the push is the sum of both leans in half.
        trial("both links", LEANING + "region 80 1 1 1; rail 9; limit 2000 9999;", 1, 0, 1, 1);
        trial("both links", LEANING + "region 80 1 1 1; rail 10; limit 2000 9999;", 1, 0, 0, -1);
    }

    /** "both speeds j * speed" */
    private static void speedsOfCells() {
        for (int j = 1; j <= 3; j++) {
            for (int sign = -1; sign <= 1; sign += 2) {
                trial("just the limit", FREE + "region 500 500 3 1; limit 2000 " + 500 * j + ";", 0, sign * j, 0, -1);
                trial("one less", FREE + "region 500 500 3 1; limit 2000 " + (500 * j - 1) + ";", 0, sign * j, 2, 1);
            }
        }
        trial("a speed of 15 turns by nothing", FREE + "region 1 15 1 200; limit 1 9999;", 0, 1, 0, -1);
        trial("one of 16 by 1", FREE + "region 1 16 1 2; limit 1 9999;", 0, 1, 3, 2);
        trial("one of -16 by -1", FREE + "region 1 16 1 2; limit 1 9999;", 0, -1, 3, 2);
        trial("away from a lean", FREE + "region 16 16 1 16; limit 16 9999;", 1, -1, 0, -1);
        trial("into a lean", FREE + "region 16 16 1 16; limit 16 9999;", 1, 1, 3, 1);
    }

    /** "x and v are 0": whatever the cart does meanwhile. */
    private static void cartOfATrial() {
        CountedPendulum x = Plants.plant("gravity 0 0; damping 0 0; push 0 0 80; couple 0; gains 0 0 0 0 64 64;"
                + "region 100 1 1 9; limit 2000 9999; rail 999;");
        x.setMode(1);
        x.run(3);
        Checks.due("x", x.state(2), 60);
        Checks.due("the cells before", x.regionSize(), 9);
        Checks.due("by gains of x and v, a cart that stands is not pushed", x.setForce(500), 9);
        Checks.due("x stays", x.state(2), 60);
        Checks.due("v stays", x.state(3), 240);
    }

    /** "Its reason is 1 if one of the steps hits a rail end" */
    private static void railEndInATrial() {
        // By a lean of 80 that stays, v is 80, 160, 240 and x is 10, 30, 60.
        for (int sign = -1; sign <= 1; sign += 2) {
            trial("just at the end", LEANING + "region 80 1 1 3; rail 60; limit 2000 9999;", sign, 0, 0, -1);
            trial("one beyond", LEANING + "region 80 1 1 3; rail 59; limit 2000 9999;", sign, 0, 1, 3);
            trial("one beyond, but later than the horizon", LEANING + "region 80 1 1 2; rail 59; limit 2000 9999;", sign, 0, 0, -1);
            trial("in the first step", LEANING + "region 80 1 1 3; rail 9; limit 2000 9999;", sign, 0, 1, 1);
            trial("upright", LEANING + "region 80 1 1 3; rail 1; limit 2000 9999;", 0, 0, 0, -1);
        }
    }

    /** "2 if there is overspeed in one" */
    private static void overspeedInATrial() {
        for (int sign = -1; sign <= 1; sign += 2) {
            trial("just the limit", FREE + "region 500 100 1 9; limit 2000 100;", 0, sign, 0, -1);
            trial("one beyond", FREE + "region 500 100 1 9; limit 2000 99;", 0, sign, 2, 1);
        }
        // Gravity of 4096 * 8 / 4096 at a lean of 1024, which only 2 * 500 and more can be near: a speed of 3, 6, 9 at 500.
        String falling = "damping 0 0; push 0 0 1; couple 0; gains 0 0 0 0 0 0; region 500 1 1 3; limit 2000 ";
        trial("link 1, just the limit", "gravity 5 0;" + falling + "9;", 1, 0, 0, -1);
        trial("link 1, one beyond", "gravity 5 0;" + falling + "8;", 1, 0, 2, 3);
        trial("link 1, in step 2", "gravity 5 0;" + falling + "5;", 1, 0, 2, 2);
        trial("link 2, just the limit", "gravity 0 5;" + falling + "9;", -1, 0, 0, -1);
        trial("link 2, one beyond", "gravity 0 5;" + falling + "8;", -1, 0, 2, 3);
    }

    /** "3 if after one the lean of a link is above the angle of limit or below its negative" */
    private static void leanInATrial() {
        // A lean of 100 that grows by 10 in each step, up to 130.
        for (int sign = -1; sign <= 1; sign += 2) {
            trial("just the limit", FREE + "region 100 160 1 3; limit 130 9999;", sign, sign, 4, -1);
            trial("one less", FREE + "region 100 160 1 3; limit 129 9999;", sign, sign, 3, 3);
            trial("one less in step 2", FREE + "region 100 160 1 3; limit 119 9999;", sign, sign, 3, 2);
            trial("one less in step 1", FREE + "region 100 160 1 3; limit 109 9999;", sign, sign, 3, 1);
            trial("just the limit in step 1", FREE + "region 100 160 1 1; limit 110 9999;", sign, sign, 4, -1);
        }
    }

    private static void leanOfEitherLink() {
        // Gravity turns a link of lean 500 by 150 * 2831 / 4096 / 16 in the only step, which is 6.
        String falling = "damping 0 0; push 0 0 1; couple 0; gains 0 0 0 0 0 0; region 500 1 1 1; limit ";
        for (int sign = -1; sign <= 1; sign += 2) {
            trial("link 1, just the limit", "gravity 150 0;" + falling + "506 9999;", sign, 0, 4, -1);
            trial("link 1, one less", "gravity 150 0;" + falling + "505 9999;", sign, 0, 3, 1);
            trial("link 2, just the limit", "gravity 0 150;" + falling + "506 9999;", sign, 0, 4, -1);
            trial("link 2, one less", "gravity 0 150;" + falling + "505 9999;", sign, 0, 3, 1);
        }
    }

    /** "if after one": a lean beyond the limit at the start is none if the first step ends within. */
    private static void leanBeforeTheFirstStep() {
        trial("back to the limit", FREE + "region 100 160 1 1; limit 90 9999;", 1, -1, 0, -1);
        trial("back to one beyond the limit", FREE + "region 100 160 1 1; limit 89 9999;", 1, -1, 3, 1);
        trial("back to the limit", FREE + "region 100 160 1 1; limit 90 9999;", -1, 1, 0, -1);
        trial("back to one beyond the limit", FREE + "region 100 160 1 1; limit 89 9999;", -1, 1, 3, 1);
    }

    /** "in one step the smallest code" */
    private static void smallestCodeOfAStep() {
        // In the first step: x is 10, the speed 160 and the lean 90.
        String text = LEANING + "region 80 160 1 1; ";
        trial("1, 2 and 3", text + "rail 9; limit 89 159;", 1, 1, 1, 1);
        trial("1 and 2", text + "rail 9; limit 90 159;", 1, 1, 1, 1);
        trial("1 and 3", text + "rail 9; limit 89 160;", 1, 1, 1, 1);
        trial("1", text + "rail 9; limit 90 160;", 1, 1, 1, 1);
        trial("2 and 3", text + "rail 10; limit 89 159;", 1, 1, 2, 1);
        trial("2", text + "rail 10; limit 90 159;", 1, 1, 2, 1);
        trial("3", text + "rail 10; limit 89 160;", 1, 1, 3, 1);
        trial("none but 4", text + "rail 10; limit 90 160;", 1, 1, 4, -1);
    }

    /** "whichever happens first" */
    private static void earliestStep() {
        // By a lean of 80, 90, 100 before each step, v is 80, 170, 270 and x is 10, 31, 64; leans behind them are 90, 100, 110.
        String text = LEANING + "region 80 160 1 3; ";
        trial("3 before 1", text + "rail 63; limit 99 160;", 1, 1, 3, 2);
        trial("3 in the step of 1", text + "rail 63; limit 109 160;", 1, 1, 1, 3);
        trial("1 before 3", text + "rail 30; limit 109 160;", 1, 1, 1, 2);
        trial("1 is never", text + "rail 64; limit 110 160;", 1, 1, 4, -1);
        // Gravity of 5 adds 3 to the speed of 160 in each step: overspeed comes late.
        String falling = "gravity 5 5; damping 0 0; push 0 0 1; couple 0; gains 0 0 0 0 0 0; region 500 160 1 3; ";
        trial("3 before 2", falling + "limit 519 168;", 1, 1, 3, 2);
        trial("2 in the step of 3", falling + "limit 529 168;", 1, 1, 2, 3);
        trial("2 before 3", falling + "limit 529 165;", 1, 1, 2, 2);
    }

    /** "horizon steps are made": a reason in the last of them counts, one step later not. */
    private static void lastStepOfTheHorizon() {
        for (int horizon : new int[] {1, 2, 60, 199, 200}) {
            // The lean is 100 and one more behind each step.
            String text = FREE + "region 100 16 1 " + horizon + "; limit " + (100 + horizon) + " 9999;";
            trial("just the limit at the end", text, 1, 1, 4, -1);
            String one = FREE + "region 100 16 1 " + horizon + "; limit " + (99 + horizon) + " 9999;";
            trial("one less", one, 1, 1, 3, horizon);
            trial("one less", one, -1, -1, 3, horizon);
        }
    }

    /** "horizon 1 to 200" */
    private static void horizons() {
        for (int horizon : new int[] {1, 2, 199, 200}) {
            // Back from 200 by one in each step: within the region's 100 from step 100 on.
            String text = FREE + "region 100 16 2 " + horizon + "; limit 2000 9999;";
            trial("back from 200", text, 2, -1, horizon >= 100 && horizon <= 300 ? 0 : 4, -1);
        }
        trial("in 99 steps", FREE + "region 100 16 2 99; limit 2000 9999;", 2, -1, 4, -1);
        trial("in 100 steps", FREE + "region 100 16 2 100; limit 2000 9999;", 2, -1, 0, -1);
    }

    /** "4 if none of this happens, but at the end the lean of a link is above the angle of region or below its negative" */
    private static void leanAtTheEnd() {
        for (int sign = -1; sign <= 1; sign += 2) {
            trial("just the angle", FREE + "region 100 160 1 10; limit 2000 9999;", 0, sign, 0, -1);
            trial("one step more", FREE + "region 100 160 1 11; limit 2000 9999;", 0, sign, 4, -1);
            trial("the lean that it began with", FREE + "region 100 160 1 10; limit 2000 9999;", sign, 0, 0, -1);
            trial("one beyond", FREE + "region 100 16 1 1; limit 2000 9999;", sign, sign, 4, -1);
            trial("one within", FREE + "region 100 16 1 1; limit 2000 9999;", sign, -sign, 0, -1);
            trial("across 0", FREE + "region 100 160 1 20; limit 2000 9999;", sign, -sign, 0, -1);
            trial("and beyond", FREE + "region 100 160 1 21; limit 2000 9999;", sign, -sign, 4, -1);
        }
    }

    private static void leanAtTheEndOfEitherLink() {
        // Gravity of 47 at lean 500 makes a speed of 32, 47 * 2831 / 4096, and so a turn of 2.
        String falling = "damping 0 0; push 0 0 1; couple 0; gains 0 0 0 0 0 0; limit 2000 9999; region 500 32 1 1;";
        trial("link 1 alone", "gravity 47 0;" + falling, 1, 0, 4, -1);
        trial("link 2 alone", "gravity 0 47;" + falling, 1, 0, 4, -1);
        trial("link 1 alone", "gravity 47 0;" + falling, -1, 0, 4, -1);
        trial("link 2 alone", "gravity 0 47;" + falling, -1, 0, 4, -1);
        trial("neither", "gravity 23 23;" + falling, 1, 0, 0, -1);
        trial("held back by the speed", "gravity 47 47;" + falling, 1, -1, 0, -1);
    }

    /** Promise 15: "the number of the step, from 1; NONE if the reason is 0 or 4". */
    private static void failedStepOfEachReason() {
        trial("reason 0", FREE + "region 100 160 1 1; limit 2000 9999;", 0, 0, 0, RailPendulum.NONE);
        trial("reason 4", FREE + "region 100 160 1 1; limit 2000 9999;", 1, 1, 4, RailPendulum.NONE);
        trial("reason 1 in step 1", LEANING + "region 80 1 1 200; rail 9; limit 2000 9999;", 1, 0, 1, 1);
        trial("reason 2 in step 1", FREE + "region 100 160 1 200; limit 2000 159;", 1, 1, 2, 1);
        trial("reason 3 in step 1", FREE + "region 100 160 1 200; limit 109 9999;", 1, 1, 3, 1);
        trial("reason 3 in step 200", FREE + "region 100 16 1 200; limit 299 9999;", 1, 1, 3, 200);
    }

    /** "with the balancing push": at most the force, that of now. */
    private static void forceOfATrial() {
        String text = LEANING.replace("500", "79") + "region 80 1 1 1; rail 9; limit 2000 9999;";
        trial("79 / 8 is 9", text, 1, 0, 0, -1);
        trial("80 / 8 is 10", text.replace("79", "80"), 1, 0, 1, 1);
        CountedPendulum x = Plants.plant(text);
        Checks.due("by a force of 79", x.regionSize(), 9);
        Checks.due("by a force of 80", x.setForce(80), 3);
        Checks.due("reason", x.reason(1, 0), 1);
        Checks.due("failedStep", x.failedStep(-1, 0), 1);
        Checks.due("by a force of 79", x.setForce(79), 9);
        Checks.due("failedStep", x.failedStep(-1, 0), -1);
        Checks.due("by a force of 500, more than the lean asks for", x.setForce(500), 3);
    }

    /** "i is the greatest whole number that is not above (2 * lean + angle) / (2 * angle) as an exact quotient" */
    private static void cellOfALean() {
        // Even: 100 parts from -50 to 49, whose lower edge belongs to the cell. Odd: 101 parts from -50 to 50.
        int[][] leans = {{-151, -2, -1}, {-150, -1, -1}, {-51, -1, -1}, {-50, 0, 0}, {-49, 0, 0}, {0, 0, 0}, {49, 0, 0},
            {50, 1, 0}, {51, 1, 1}, {149, 1, 1}, {150, 2, 1}, {151, 2, 1}, {152, 2, 2}, {-152, -2, -2}};
        CountedPendulum even = Plants.plant("region 100 1 3 1;");
        CountedPendulum odd = Plants.plant("region 101 1 3 1;");
        for (int[] row : leans) {
            even.reset(row[0] & 4095, 0);
            odd.reset(0, row[0] & 4095);
            Checks.due("100: lean " + row[0], even.cellOf(1, 0), row[1]);
            Checks.due("100: the other link", even.cellOf(2, 0), 0);
            Checks.due("101: lean " + row[0], odd.cellOf(2, 0), row[2]);
            Checks.due("101: the other link", odd.cellOf(1, 0), 0);
        }
        CountedPendulum least = Plants.plant("region 1 1 3 1;");
        for (int lean = -5; lean <= 5; lean++) {
            least.reset(lean & 4095, lean & 4095);
            Checks.due("1: lean " + lean, least.cellOf(1, 0), lean);
            Checks.due("1: lean " + lean, least.cellOf(2, 0), lean);
        }
    }

    /** "and j likewise by its speed and the speed of region" */
    private static void cellOfASpeed() {
        int[][] speeds = {{-151, -2, -1}, {-150, -1, -1}, {-51, -1, -1}, {-50, 0, 0}, {0, 0, 0}, {49, 0, 0},
            {50, 1, 0}, {51, 1, 1}, {149, 1, 1}, {150, 2, 1}, {152, 2, 2}, {-152, -2, -2}};
        for (int[] row : speeds) {
            CountedPendulum even = Plants.at("region 1 100 3 1;", 0, 0, row[0], 0);
            CountedPendulum odd = Plants.at("region 1 101 3 1;", 0, 0, 0, row[0]);
            Checks.due("100: speed " + row[0], even.cellOf(1, 1), row[1]);
            Checks.due("100: the other link", even.cellOf(2, 1), 0);
            Checks.due("101: speed " + row[0], odd.cellOf(2, 1), row[2]);
            Checks.due("101: the other link", odd.cellOf(1, 1), 0);
        }
    }

    private static void cellOfTheOutermost() {
        CountedPendulum x = Plants.at("region 1 1 0 1; limit 512 9999;", 2047, 2048, 9999, -9999);
        Checks.due("lean 2047", x.cellOf(1, 0), 2047);
        Checks.due("lean -2048", x.cellOf(2, 0), -2048);
        Checks.due("speed 9999", x.cellOf(1, 1), 9999);
        Checks.due("speed -9999", x.cellOf(2, 1), -9999);
        CountedPendulum y = Plants.at("region 500 500 0 1; limit 512 9999;", 2047, 2048, 9999, -9999);
        Checks.due("lean 2047 of 500", y.cellOf(1, 0), 4);
        Checks.due("lean -2048 of 500", y.cellOf(2, 0), -4);
        Checks.due("speed 9999 of 500", y.cellOf(1, 1), 20);
        Checks.due("speed -9999 of 500", y.cellOf(2, 1), -20);
    }

    /** Promise 18: links are checked first, then "what: 0 i, 1 j". */
    private static void partsOfACell() {
        CountedPendulum x = Plants.at("region 100 100 3 1;", 100, 200, 300, -100);
        int[][] cells = {{1, 3}, {2, -1}};
        for (int link = 1; link <= 2; link++) {
            int there = link;
            Checks.throwsArgument("cellOf what -1", () -> x.cellOf(there, -1));
            Checks.due("cellOf what 0", x.cellOf(link, 0), cells[link - 1][0]);
            Checks.due("cellOf what 1", x.cellOf(link, 1), cells[link - 1][1]);
            Checks.throwsArgument("cellOf what 2", () -> x.cellOf(there, 2));
            Checks.throwsArgument("cellOf what least", () -> x.cellOf(there, Integer.MIN_VALUE));
            Checks.throwsArgument("cellOf what most", () -> x.cellOf(there, Integer.MAX_VALUE));
        }
        for (int link : new int[] {0, 3, -1, Integer.MIN_VALUE, Integer.MAX_VALUE}) {
            for (int what : new int[] {-1, 0, 1, 2}) {
                Checks.throwsIndex("cellOf " + link + " " + what, () -> x.cellOf(link, what));
            }
        }
    }

    private static boolean capturable(String text, int a1, int a2, int w1, int w2) {
        return Plants.at(text, a1 & 4095, a2 & 4095, w1, w2).isCapturable();
    }

    /** "(cells beyond count are not)": though they would be verified with a greater count. */
    private static void capturableWithinCount() {
        // All that turns by 0 or 1 in the only step is verified if its lean is 100 or less.
        for (int count = 0; count <= 1; count++) {
            String text = FREE + "region 100 10 " + count + " 1; limit 2000 9999;";
            int most = 100 * count + 49;
            Checks.due("lean at the edge", capturable(text, most, -most - 1, 0, 0), true);
            Checks.due("lean of 1 beyond", capturable(text, most + 1, 0, 0, 0), false);
            Checks.due("lean of 2 beyond", capturable(text, 0, most + 1, 0, 0), false);
            Checks.due("lean of 1 below", capturable(text, -most - 2, 0, 0, 0), false);
            Checks.due("lean of 2 below", capturable(text, 0, -most - 2, 0, 0), false);
            int fastest = 10 * count + 4;
            Checks.due("speed at the edge", capturable(text, 0, 0, fastest, -fastest - 1), true);
            Checks.due("speed of 1 beyond", capturable(text, 0, 0, fastest + 1, 0), false);
            Checks.due("speed of 2 beyond", capturable(text, 0, 0, 0, fastest + 1), false);
            Checks.due("speed of 1 below", capturable(text, 0, 0, -fastest - 2, 0), false);
            Checks.due("speed of 2 below", capturable(text, 0, 0, 0, -fastest - 2), false);
        }
        for (int count = 2; count <= 3; count++) {
            String text = FREE + "region 100 10 " + count + " 1; limit 2000 9999;";
            Checks.due("speed at the edge", capturable(text, 0, 0, 10 * count + 4, -10 * count - 5), true);
            Checks.due("speed beyond", capturable(text, 0, 0, 10 * count + 5, 0), false);
            Checks.due("speed below", capturable(text, 0, 0, 0, -10 * count - 6), false);
        }
        Checks.due("far out", capturable(FREE + "region 1 1 3 1; limit 2000 9999;", 2048, 2047, 9999, -9999), false);
    }

    /** "A state is capturable if the cells .. are verified": of reason 0, not of another. */
    private static void capturableIfVerified() {
        String text = FREE + "region 100 160 1 10; limit ";
        // Turning out by 10 in each step from lean 100, a link leaves the region or the limit; turning in, it does not.
        Checks.due("reason 4", capturable(text + "2000 9999;", 100, 100, 160, 160), false);
        Checks.due("reason 3", capturable(text + "150 9999;", 100, 100, 160, 160), false);
        Checks.due("reason 2", capturable(text + "2000 159;", 100, 100, 160, 160), false);
        Checks.due("reason 0", capturable(text + "2000 9999;", 100, 100, -160, -160), true);
        Checks.due("reason 0 of a cell that is not the state", capturable(text + "2000 9999;", 149, 50, -80, -81), true);
        String leaning = LEANING + "region 80 1 1 1; limit 2000 9999; rail ";
        Checks.due("reason 1", capturable(leaning + "9;", 80, 80, 0, 0), false);
        Checks.due("reason 0", capturable(leaning + "10;", 80, 80, 0, 0), true);
        CountedPendulum x = Plants.at(leaning + "9;", 80, 80, 0, 0);
        x.setForce(79);
        Checks.due("by the force of now", x.isCapturable(), true);
    }

    /** "if the cells of both links are verified" */
    private static void capturableByBothLinks() {
        String text = FREE + "region 100 160 1 10; limit 2000 9999;";
        Checks.due("both", capturable(text, 0, 0, 160, -160), true);
        Checks.due("link 1 alone", capturable(text, 0, 100, 160, 160), false);
        Checks.due("link 2 alone", capturable(text, 100, 0, 160, 160), false);
        Checks.due("neither", capturable(text, 100, -100, 160, -160), false);
        Checks.due("both, in cells of their own", capturable(text, 100, -100, -160, 160), true);
    }
}
