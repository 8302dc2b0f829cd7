/** Hands plant texts to an object, and writes down what an object shows of itself. */
final class Plants {
    private Plants() {
    }

    /** A new object with the plant of a text that is right. */
    static CountedPendulum plant(String text) {
        CountedPendulum x = new CountedPendulum();
        int code = parse(x, text);
        if (code != 0) {
            throw new AssertionError("the test's own text is wrong: " + text);
        }
        return x;
    }

    /** Such a plant, reset to two angles and then nudged to two speeds. */
    static CountedPendulum at(String text, int a1, int a2, int w1, int w2) {
        CountedPendulum x = plant(text);
        x.reset(a1, a2);
        faster(x, 1, w1);
        faster(x, 2, w2);
        return x;
    }

    /** Nudges a link by any amount, in as few calls as there must be. */
    static void faster(CountedPendulum x, int link, int amount) {
        for (int left = amount; left != 0; left -= Math.max(-500, Math.min(500, left))) {
            x.nudge(link, Math.max(-500, Math.min(500, left)));
        }
    }

    /** Whether the cart and the links are where they should be: x, v, a1, w1, a2, w2. */
    static void moved(String what, CountedPendulum x, int... want) {
        Checks.due(what + ": x", x.state(2), want[0]);
        Checks.due(what + ": v", x.state(3), want[1]);
        Checks.due(what + ": a1", x.link(1, 0), want[2]);
        Checks.due(what + ": w1", x.link(1, 1), want[3]);
        Checks.due(what + ": a2", x.link(2, 0), want[4]);
        Checks.due(what + ": w2", x.link(2, 1), want[5]);
    }

    static int parse(CountedPendulum x, String text) {
        append(x, text);
        return x.parse(text.length());
    }

    /** Appends the text, filled up with spaces to a multiple of 20. */
    static void append(CountedPendulum x, String text) {
        for (int from = 0; from < text.length(); from += 20) {
            x.append(four(text, from), four(text, from + 4), four(text, from + 8),
                    four(text, from + 12), four(text, from + 16));
        }
    }

    private static int four(String text, int from) {
        int bytes = 0;
        for (int k = from; k < from + 4; k++) {
            bytes = bytes << 8 | (k < text.length() ? text.charAt(k) & 255 : ' ');
        }
        return bytes;
    }

    /** All that the object answers without changing: at most 148 calls, 50 with a single cell. */
    static String shown(CountedPendulum x) {
        StringBuilder all = new StringBuilder();
        for (int what = 0; what <= 8; what++) {
            all.append(x.state(what)).append(' ');
        }
        for (int link = 1; link <= 2; link++) {
            all.append("| ").append(x.link(link, 0)).append(' ').append(x.link(link, 1)).append(' ');
            all.append(x.energy(link)).append(' ').append(x.target(link)).append(' ');
            all.append(x.cellOf(link, 0)).append(' ').append(x.cellOf(link, 1)).append(' ');
        }
        all.append("| ").append(x.push()).append(' ').append(x.stopReason()).append(' ').append(x.isCapturable());
        for (int ticks = 1; ticks <= 200; ticks += 13) {
            all.append(' ').append(x.switchesIn(ticks));
        }
        all.append(" | ").append(x.regionSize());
        int cells = 0;
        for (int reason = 0; reason <= 4; reason++) {
            int found = x.cellsWith(reason);
            all.append(' ').append(found);
            cells += found;
        }
        all.append(" |");
        int count = cells > 25 ? 3 : cells > 9 ? 2 : cells > 1 ? 1 : 0;
        for (int i = -count; i <= count; i++) {
            for (int j = -count; j <= count; j++) {
                all.append(' ').append(x.reason(i, j)).append('@').append(x.failedStep(i, j));
            }
        }
        all.append(" | ").append(x.ticksToBalance(100)).append(' ').append(x.ticksToStop(100));
        all.append(' ').append(x.farthest(100)).append(' ').append(x.linkAfter(1, 0, 100));
        return all.toString();
    }
}
