/** All promises: long runs of calls, always the same ones, answered by the class and by the Model. */
public final class ModelTest {
    private static final int OBJECTS = 400;
    // A text is at most 25 calls of append, one of parse and one of errorPosition.
    private static final int MOST_CALLS_AT_ONCE = 27;

    private static final String[] WORDS =
            {"rail", "gravity", "damping", "push", "couple", "gains", "region", "limit", "chatter"};
    private static final int[] ITEMS = {1, 2, 2, 3, 1, 6, 4, 2, 3};
    private static final int[] LEAST = {1, 0, 0, 0, 0, 0, 0, 1, 0, 0, 0, 0, 0, 0, 0, 1, 1, 0, 1, 1, 1, 1, 1, 0};
    private static final int[] MOST = {9999, 200, 200, 400, 400, 9, 9, 500, 200, 99, 99, 99, 99, 99, 99,
        500, 500, 3, 200, 2000, 9999, 20, 200, 999};
    private static final int[] LIVELY = {3000, 20, 30, 8, 9, 1, 2, 20, 10, 8, 16, 6, 9, 1, 2,
        100, 90, 2, 6, 90, 1200, 2, 20, 5};

    private static long seed = 20261119;
    private static CountedPendulum x;
    private static Model model;
    // What the runs came upon; a run that never meets a case would prove nothing about it.
    private static int balanced;
    private static int locked;
    private static int railEnds;
    private static int overspeeds;
    private static int badTexts;
    private static int lateTicks;
    private static final int[] reasons = new int[5];

    public static void main(String[] args) {
        for (int object = 0; object < OBJECTS; object++) {
            useOne(object, object % 13 == 0 ? "" : plantText(false));
        }
        for (int which = 0; which < 24; which++) {
            for (int value = 0; value < 6; value++) {
                useOne(which, extremeText(which, value));
            }
        }
        Checks.due("balance was met", balanced > 100, true);
        Checks.due("the lock was met", locked > 1000, true);
        Checks.due("rail ends were met", railEnds > 100, true);
        Checks.due("overspeed was met", overspeeds > 100, true);
        Checks.due("bad texts were met", badTexts > 100, true);
        Checks.due("late ticks were met", lateTicks > 20, true);
        for (int reason = 0; reason <= 4; reason++) {
            Checks.due("reason " + reason + " was met", reasons[reason] > 50, true);
        }
        System.out.println("met: balance " + balanced + ", lock " + locked + ", rail ends " + railEnds
                + ", overspeed " + overspeeds + ", bad texts " + badTexts + ", late ticks " + lateTicks);
        Checks.finish();
    }

    /** All the calls that an object may have, most of them made by the run's own dice. */
    private static void useOne(int object, String text) {
        x = new CountedPendulum();
        model = new Model();
        handText(text);
        while (x.callsLeft() >= MOST_CALLS_AT_ONCE) {
            someCall(object);
            noteWhatWasMet();
        }
        while (x.callsLeft() > 0) {
            compare("undo", () -> x.undo(), model.undo());
        }
    }

    private static int next(int bound) {
        seed = seed * 6364136223846793005L + 1442695040888963407L;
        return (int) Math.floorMod(seed >>> 33, (long) bound);
    }

    private static int between(int least, int most) {
        return least + next(most - least + 1);
    }

    /** Mostly a number from least to most, at times an end of the range or one beyond it. */
    private static int about(int least, int most) {
        switch (next(24)) {
            case 0: return least;
            case 1: return most;
            case 2: return least - 1;
            case 3: return most + 1;
            case 4: return next(40) == 0 ? Integer.MIN_VALUE : between(least, most);
            case 5: return next(40) == 0 ? Integer.MAX_VALUE : between(least, most);
            default: return between(least, most);
        }
    }

    private static void noteWhatWasMet() {
        balanced += model.state(1) == 2 ? 1 : 0;
        locked += model.state(4) > 0 ? 1 : 0;
        railEnds += model.stopReason() == 1 ? 1 : 0;
        overspeeds += model.stopReason() == 2 ? 1 : 0;
        lateTicks += model.state(0) > 9000 ? 1 : 0;
        for (int reason = 0; reason <= 4; reason++) {
            reasons[reason] += model.cellsWith(reason);
        }
    }

    // ---- plant texts

    /** A plant that is captured far out and given up soon, so that it switches often. */
    private static String chatteringText() {
        return "gravity " + next(60) + " " + next(60) + ";region " + between(100, 500) + " " + between(100, 500) + " "
                + next(4) + " " + between(1, 6) + ";limit " + between(1, 120) + " " + between(3000, 9999)
                + ";chatter " + between(1, next(2) == 0 ? 20 : 4) + " " + between(1, 200) + " " + next(9)
                + ";push 1 1 " + between(1, 30) + ";damping " + next(60) + " " + next(60) + ";";
    }

    private static String plantText(boolean mayBeBad) {
        if (!mayBeBad && next(3) == 0) {
            return chatteringText();
        }
        String[] statements = {
            "rail " + (next(2) == 0 ? between(1, 300) : between(1, 9999)),
            "gravity " + between(0, 200) + " " + between(0, 200),
            "damping " + between(0, 400) + " " + between(0, 400),
            "push " + between(0, 9) + " " + between(0, 9) + " " + (next(2) == 0 ? between(1, 500) : between(1, 60)),
            "couple " + between(0, 200),
            "gains " + gain() + " " + gain() + " " + gain() + " " + gain() + " " + next(3) + " " + next(3),
            "region " + between(1, next(3) == 0 ? 500 : 90) + " " + between(1, next(3) == 0 ? 500 : 90) + " "
                    + next(4) + " " + (next(3) == 0 ? between(1, 200) : between(1, 20)),
            "limit " + between(1, next(2) == 0 ? 2000 : 200) + " " + between(1, next(2) == 0 ? 9999 : 900),
            "chatter " + between(1, next(2) == 0 ? 20 : 3) + " " + between(1, 200) + " "
                    + (next(2) == 0 ? next(5) : next(1000)),
        };
        StringBuilder text = new StringBuilder();
        int shift = next(9);
        int step = next(2) == 0 ? 2 : 4;
        for (int k = 0; k < 9; k++) {
            if (next(3) != 0) {
                text.append(statements[(shift + k * step) % 9]).append(next(4) == 0 ? " ;\n" : ";");
            }
        }
        if (mayBeBad) {
            spoil(text);
        }
        return text.length() > 480 ? "" : text.toString();
    }

    /** A lively plant, but with one of its 24 numbers at an end of its range, next to it, or one beyond it. */
    private static String extremeText(int which, int value) {
        StringBuilder text = new StringBuilder();
        int number = 0;
        for (int k = 0; k < WORDS.length; k++) {
            text.append(WORDS[k]);
            for (int item = 0; item < ITEMS[k]; item++) {
                int least = LEAST[number];
                int most = MOST[number];
                int[] values = {least, least + 1, most - 1, most, Math.max(0, least - 1), most + 1};
                text.append(' ').append(number == which ? values[value] : LIVELY[number]);
                number++;
            }
            text.append(';');
        }
        return text.toString();
    }

    private static int gain() {
        return next(3) == 0 ? between(0, 99) : between(0, 20);
    }

    private static void spoil(StringBuilder text) {
        String[] pieces = {"rail 5;", ";", "0", "9", "999", " ", "\n", "x", "A", "rail", "limit 1 1;", "push 0 0 0;", "\u00e9"};
        int place = next(text.length() + 1);
        switch (next(4)) {
            case 0:
                text.setLength(place);
                break;
            case 1:
                if (place < text.length()) {
                    text.deleteCharAt(place);
                }
                break;
            default:
                text.insert(place, pieces[next(pieces.length)]);
                break;
        }
    }

    private static void handText(String text) {
        for (int from = 0; from < text.length(); from += 20) {
            append(four(text, from), four(text, from + 4), four(text, from + 8), four(text, from + 12), four(text, from + 16));
        }
        parse(text.length());
    }

    private static int four(String text, int from) {
        int bytes = 0;
        for (int k = from; k < from + 4; k++) {
            bytes = bytes << 8 | (k < text.length() ? text.charAt(k) : ' ');
        }
        return bytes;
    }

    private static void append(int a, int b, int c, int d, int e) {
        Checks.due("append", x.append(a, b, c, d, e), model.append(a, b, c, d, e));
    }

    private static void parse(int length) {
        long want = model.parse(length);
        compare("parse " + length, () -> x.parse(length), want);
        compare("errorPosition", () -> x.errorPosition(), model.errorPosition());
        badTexts += want > 0 ? 1 : 0;
    }

    // ---- calls

    private interface Call {
        long answer();
    }

    private static void compare(String name, Call call, long want) {
        long got;
        try {
            got = call.answer();
        } catch (RuntimeException e) {
            got = e.getClass() == IndexOutOfBoundsException.class ? Model.INDEX
                    : e.getClass() == IllegalArgumentException.class ? Model.ARGUMENT
                    : e.getClass() == IllegalStateException.class ? Model.STATE : Long.MIN_VALUE + 3;
        }
        Checks.due(name, got, want);
    }

    private static void someCall(int object) {
        int kind = next(100);
        if (kind < 45) {
            someChange(object);
        } else if (kind < 85) {
            someQuestion();
        } else if (kind < 95) {
            someUndo();
        } else if (next(30) == 0) {
            handText(plantText(next(3) != 0));
        } else if (next(6) == 0) {
            handText(plantText(true) + " @");
        }
    }

    private static void someChange(int object) {
        int a = about(0, 4095);
        int b = next(3) == 0 ? about(0, 4095) : a;
        // A stopped plant has little to show: it is mostly reset, and then set to swing up.
        boolean stopped = model.state(1) == 3 && next(3) != 0;
        boolean idle = model.state(1) == 0 && next(3) != 0;
        switch (stopped ? 4 : idle ? 2 : next(8)) {
            case 0: case 1: {
                int ticks = object % 5 == 0 || next(6) == 0 ? about(1, 1000) : between(1, 12);
                compare("run " + ticks, () -> x.run(ticks), model.run(ticks));
                break;
            }
            case 2: case 3: {
                int mode = next(3) == 0 ? about(0, 2) : 1;
                compare("setMode " + mode, () -> x.setMode(mode), model.setMode(mode));
                break;
            }
            case 4: case 5: {
                int near1 = next(3) == 0 ? a : between(-150, 150) & 4095;
                int near2 = next(3) == 0 ? b : between(-150, 150) & 4095;
                compare("reset " + near1 + " " + near2, () -> x.reset(near1, near2), model.reset(near1, near2));
                break;
            }
            case 6: {
                int link = next(2) == 0 ? between(1, 2) : about(1, 2);
                int amount = next(2) == 0 ? about(-500, 500) : between(-40, 40);
                compare("nudge " + link + " " + amount, () -> x.nudge(link, amount), model.nudge(link, amount));
                break;
            }
            default: {
                int force = next(2) == 0 ? about(1, 500) : between(1, 60);
                compare("setForce " + force, () -> x.setForce(force), model.setForce(force));
                break;
            }
        }
    }

    private static void someUndo() {
        int slot = next(10) == 0 ? about(0, 1) : next(2);
        switch (next(5)) {
            case 0:
                compare("saveSnapshot " + slot, () -> x.saveSnapshot(slot) ? 1 : 0, model.saveSnapshot(slot));
                break;
            case 1:
                compare("restoreSnapshot " + slot, () -> x.restoreSnapshot(slot), model.restoreSnapshot(slot));
                break;
            default:
                compare("undo", () -> x.undo(), model.undo());
                break;
        }
    }

    private static void someQuestion() {
        int link = next(4) == 0 ? about(1, 2) : between(1, 2);
        int what = about(0, 2);
        int ticks = about(0, next(4) == 0 ? 1000 : 30);
        int i = about(-3, 3);
        int j = about(-3, 3);
        int angle = about(0, 4095);
        int part = about(0, 8);
        int back = about(1, 200);
        int reason = about(0, 4);
        int limit = next(9) == 0 ? about(0, 1000) : ticks;
        switch (next(19)) {
            case 0: compare("sine " + angle, () -> x.sine(angle), model.sine(angle)); break;
            case 1: compare("lean " + angle, () -> x.lean(angle), model.lean(angle)); break;
            case 2: compare("state " + part, () -> x.state(part), model.state(part)); break;
            case 3: compare("link " + link + " " + what, () -> x.link(link, what), model.link(link, what)); break;
            case 4: compare("energy " + link, () -> x.energy(link), model.energy(link)); break;
            case 5: compare("target " + link, () -> x.target(link), model.target(link)); break;
            case 6: compare("push", () -> x.push(), model.push()); break;
            case 7: compare("stopReason", () -> x.stopReason(), model.stopReason()); break;
            case 8: compare("switchesIn " + back, () -> x.switchesIn(back), model.switchesIn(back)); break;
            case 9: compare("reason " + i + " " + j, () -> x.reason(i, j), model.reason(i, j)); break;
            case 10: compare("failedStep " + i + " " + j, () -> x.failedStep(i, j), model.failedStep(i, j)); break;
            case 11: compare("regionSize", () -> x.regionSize(), model.regionSize()); break;
            case 12: compare("cellsWith " + reason, () -> x.cellsWith(reason), model.cellsWith(reason)); break;
            case 13: compare("cellOf " + link + " " + what, () -> x.cellOf(link, what), model.cellOf(link, what)); break;
            case 14: compare("isCapturable", () -> x.isCapturable() ? 1 : 0, model.isCapturable()); break;
            case 15: compare("ticksToBalance " + limit, () -> x.ticksToBalance(limit), model.ticksToBalance(limit)); break;
            case 16: compare("ticksToStop " + limit, () -> x.ticksToStop(limit), model.ticksToStop(limit)); break;
            case 17: compare("farthest " + limit, () -> x.farthest(limit), model.farthest(limit)); break;
            default:
                compare("linkAfter " + link + " " + what + " " + limit,
                        () -> x.linkAfter(link, what, limit), model.linkAfter(link, what, limit));
                break;
        }
    }
}
