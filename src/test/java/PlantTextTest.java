/** Promises 1 to 4: a new object, append, parse, errorPosition. */
public final class PlantTextTest {
    private static final String ALL_USUAL = "rail 4000; gravity 40 60; damping 8 8; push 1 1 60; couple 10;"
            + " gains 4 8 4 8 0 0; region 64 32 2 60; limit 512 1500; chatter 4 50 100;";

    public static void main(String[] args) {
        newObject();
        usualNumbers();
        appending();
        bytesOfArguments();
        parsingLength();
        whatIsAText();
        tokens();
        words();
        places();
        secondStatements();
        ranges();
        firstErrorCounts();
        errorPositionLasts();
        successStartsAnew();
        successForgetsSwitches();
        errorChangesNothing();
        Checks.finish();
    }

    private static void newObject() {
        CountedPendulum x = new CountedPendulum();
        Checks.due("NONE", RailPendulum.NONE, -1);
        int[] want = {0, 0, 0, 0, 0, 60, 0, 0, 0};
        for (int what = 0; what <= 8; what++) {
            Checks.due("new: state " + what, x.state(what), want[what]);
        }
        for (int link = 1; link <= 2; link++) {
            Checks.due("new: angle", x.link(link, 0), 2048);
            Checks.due("new: speed", x.link(link, 1), 0);
        }
        Checks.due("new: errorPosition", x.errorPosition(), -1);
        Checks.due("new: undo", x.undo(), -1);
        Checks.throwsArgument("new: the buffer is empty", () -> x.parse(1));
        Checks.throwsState("new: slot 0 is empty", () -> x.restoreSnapshot(0));
        Checks.throwsState("new: slot 1 is empty", () -> x.restoreSnapshot(1));
        CountedPendulum y = new CountedPendulum();
        Checks.due("new: empty text", y.parse(0), 0);
        Checks.sameText("new: as the empty text", Plants.shown(x), Plants.shown(y));
    }

    private static void usualNumbers() {
        for (int k = 0; k < 30; k++) {
            CountedPendulum x = new CountedPendulum();
            CountedPendulum y = Plants.plant(ALL_USUAL);
            Checks.sameText("usual: " + k, Plants.shown(x), Plants.shown(y));
            x.reset(k * 5, 4095 - k * 3);
            y.reset(k * 5, 4095 - k * 3);
            x.setMode(1);
            y.setMode(1);
            x.run(40);
            y.run(40);
            Checks.sameText("usual, swinging: " + k, Plants.shown(x), Plants.shown(y));
        }
    }

    private static void appending() {
        CountedPendulum x = new CountedPendulum();
        for (int k = 1; k <= 25; k++) {
            Checks.due("append " + k, x.append(0x20202020, 0x20202020, 0x20202020, 0x20202020, 0x20202020), 20 * k);
        }
        Checks.due("append beyond 500", x.append(1, 2, 3, 4, 5), -1);
        Checks.due("append beyond 500 again", x.append(1, 2, 3, 4, 5), -1);
        Checks.throwsArgument("nothing was appended", () -> x.parse(501));
        Checks.due("parse 500", x.parse(500), 0);
        Checks.due("append after", x.append(1, 2, 3, 4, 5), 20);
    }

    private static void bytesOfArguments() {
        CountedPendulum x = new CountedPendulum();
        // "push", " 2 3", " 12;", "rail", "77; "
        Checks.due("append", x.append(0x70757368, 0x20322033, 0x2031323B, 0x7261696C, 0x37373B20), 20);
        Checks.due("parse in order of bytes", x.parse(20), 0);
        Checks.due("force of text", x.state(5), 12);
        for (int place = 0; place < 20; place++) {
            CountedPendulum y = new CountedPendulum();
            for (int odd : new int[] {0, 9, 10, 13, 31, 33, 47, 58, 64, 90, 96, 123, 127, 128, 160, 176, 255}) {
                StringBuilder text = new StringBuilder("                    ");
                text.setCharAt(place, (char) odd);
                int code = Plants.parse(y, text.toString());
                Checks.due("byte " + odd + " at " + place, code, odd == 10 ? 0 : 1);
                Checks.due("its position", y.errorPosition(), odd == 10 ? -1 : place);
            }
        }
    }

    private static void parsingLength() {
        CountedPendulum x = new CountedPendulum();
        Checks.throwsArgument("parse(-1)", () -> x.parse(-1));
        Checks.throwsArgument("parse(least)", () -> x.parse(Integer.MIN_VALUE));
        Checks.throwsArgument("parse(most)", () -> x.parse(Integer.MAX_VALUE));
        Plants.append(x, "push 1 1 70; push 0 0");
        Checks.throwsArgument("parse(41)", () -> x.parse(41));
        Checks.due("only the first bytes count", x.parse(12), 0);
        Checks.due("force", x.state(5), 70);
        Checks.throwsArgument("the buffer is empty after a success", () -> x.parse(1));
        Plants.append(x, "rail;");
        Checks.throwsArgument("parse(21)", () -> x.parse(21));
        Checks.due("the buffer is as it was after an exception", x.parse(5), 1);
        Checks.due("errorPosition", x.errorPosition(), 4);
        Checks.throwsArgument("the buffer is empty after an error", () -> x.parse(1));
        Checks.due("errorPosition after an exception", x.errorPosition(), 4);
        Plants.append(x, "railway 1;");
        Checks.due("a word is cut off by the length", x.parse(4), 1);
        Checks.due("errorPosition", x.errorPosition(), 4);
        Plants.append(x, "rail 12345;");
        Checks.due("a number is cut off by the length", x.parse(9), 1);
        Checks.due("errorPosition", x.errorPosition(), 9);
        Checks.due("parse(0)", x.parse(0), 0);
        Checks.due("errorPosition after a success", x.errorPosition(), -1);
        Checks.due("force of the empty text", x.state(5), 60);
    }

    private static void right(String text) {
        CountedPendulum x = new CountedPendulum();
        Checks.due("'" + text + "'", Plants.parse(x, text), 0);
        Checks.due("'" + text + "' position", x.errorPosition(), -1);
    }

    private static void wrong(String text, int code, int position) {
        CountedPendulum x = new CountedPendulum();
        Checks.due("'" + text + "'", Plants.parse(x, text), code);
        Checks.due("'" + text + "' position", x.errorPosition(), position);
    }

    private static void whatIsAText() {
        right("");
        right(" ");
        right("\n \n");
        right(ALL_USUAL);
        right("chatter 1 1 0;rail 1;");
        right("rail1;gravity1 2;");
        right("\nrail\n0007 ;\n");
        right("push 9 9 500;gains 1 2 3 4 5 6;region 500 500 3 200;");
        right("region 1 1 0 1;limit 1 1;damping 400 0;couple 200;");
        right("limit 2000 9999;couple 0000;");
    }

    private static void tokens() {
        wrong("railrails 5;", 1, 0);
        wrong("abcdefgh 5;", 1, 0);
        wrong("rail 00005;", 1, 5);
        wrong("rail 99999999999;", 1, 5);
        wrong("Rail 5;", 1, 0);
        wrong("raiL 5;", 1, 0);
        wrong("rail\t5;", 1, 4);
        wrong("rail -5;", 1, 5);
        wrong("rail 5,", 1, 6);
        wrong("rail 5.5;", 1, 6);
        wrong("rail 5;#", 1, 7);
        wrong("rail 5;\0", 1, 7);
        wrong("rail 5\u00b9;", 1, 6);
        wrong("gains 1 2 3 4 5 6;chatters 1 1 1;", 1, 18);
    }

    private static void words() {
        String[] statements = {"rail 5;", "gravity 1 2;", "damping 1 2;", "push 1 2 3;", "couple 5;",
            "gains 1 2 3 4 5 6;", "region 1 2 3 4;", "limit 1 2;", "chatter 1 2 3;"};
        for (String one : statements) {
            for (int k = 0; k < one.indexOf(' '); k++) {
                char other = one.charAt(k) == 'x' ? 'y' : 'x';
                wrong(one.substring(0, k) + other + one.substring(k + 1), 1, 0);
                wrong(" " + one.substring(0, k) + one.substring(k + 1), 1, 1);
                wrong("\n" + one.substring(0, k) + other + one.substring(k), 1, 1);
            }
            String letters = one.substring(0, one.indexOf(' '));
            wrong(letters + "s" + one.substring(letters.length()), 1, 0);
        }
    }

    private static void places() {
        wrong(";", 1, 0);
        wrong("rail 5;;", 1, 7);
        wrong("5;", 1, 0);
        wrong("foo", 1, 0);
        wrong("angle 1;", 1, 0);
        wrong("rail", 1, 4);
        wrong("rail  ", 1, 6);
        wrong("rail 5", 1, 6);
        wrong("rail 5 \n", 1, 8);
        wrong("rail ;", 1, 5);
        wrong("rail 5 6;", 1, 7);
        wrong("rail rail 5;", 1, 5);
        wrong("rail 5 rail 5;", 1, 7);
        wrong("gravity 5;", 1, 9);
        wrong("gravity 5 6 7;", 1, 12);
        wrong("damping 5;", 1, 9);
        wrong("damping 5 6 7;", 1, 12);
        wrong("push 1 2;", 1, 8);
        wrong("push 1 2 3 4;", 1, 11);
        wrong("couple;", 1, 6);
        wrong("couple 1 2;", 1, 9);
        wrong("gains 1 2 3 4 5;", 1, 15);
        wrong("gains 1 2 3 4 5 6 7;", 1, 18);
        wrong("region 1 2 3;", 1, 12);
        wrong("region 1 2 3 4 5;", 1, 15);
        wrong("limit 1;", 1, 7);
        wrong("limit 1 2 3;", 1, 10);
        wrong("chatter 1 2;", 1, 11);
        wrong("chatter 1 2 3 4;", 1, 14);
        wrong("region 1 2 3", 1, 12);
        wrong("rail 5; gravity", 1, 15);
    }

    private static void secondStatements() {
        String[] statements = {"rail 5;", "gravity 1 2;", "damping 1 2;", "push 1 2 3;", "couple 5;",
            "gains 1 2 3 4 5 6;", "region 1 2 3 4;", "limit 1 2;", "chatter 1 2 3;"};
        for (String one : statements) {
            wrong(one + one, 2, one.length());
            for (String other : statements) {
                if (!one.equals(other)) {
                    right(one + other);
                    wrong(other + " " + one + "\n" + other, 2, other.length() + one.length() + 2);
                }
            }
        }
        wrong("rail 5;rail;", 2, 7);
        wrong("rail 5;rail 0;", 2, 7);
        wrong("rail 5;rail", 2, 7);
        wrong("rail 0;rail 5;", 3, 5);
    }

    /** Puts each number of a statement to its least and most, and one beyond each where a text can say it. */
    private static void ranges() {
        range("rail", new int[] {1, 9999});
        range("gravity", new int[] {0, 200}, new int[] {0, 200});
        range("damping", new int[] {0, 400}, new int[] {0, 400});
        range("push", new int[] {0, 9}, new int[] {0, 9}, new int[] {1, 500});
        range("couple", new int[] {0, 200});
        int[] gain = {0, 99};
        range("gains", gain, gain, gain, gain, gain, gain);
        range("region", new int[] {1, 500}, new int[] {1, 500}, new int[] {0, 3}, new int[] {1, 200});
        range("limit", new int[] {1, 2000}, new int[] {1, 9999});
        range("chatter", new int[] {1, 20}, new int[] {1, 200}, new int[] {0, 999});
    }

    private static void range(String word, int[]... bounds) {
        for (int which = 0; which < bounds.length; which++) {
            for (int value : new int[] {bounds[which][0] - 1, bounds[which][0], bounds[which][1], bounds[which][1] + 1}) {
                if (value < 0 || value > 9999) {
                    continue;
                }
                StringBuilder text = new StringBuilder(word);
                int position = 0;
                for (int k = 0; k < bounds.length; k++) {
                    text.append(' ');
                    position = k == which ? text.length() : position;
                    text.append(k == which ? value : bounds[k][1]);
                }
                text.append(';');
                if (value < bounds[which][0] || value > bounds[which][1]) {
                    wrong(text.toString(), 3, position);
                } else {
                    right(text.toString());
                }
            }
        }
    }

    private static void firstErrorCounts() {
        wrong("rail 0; ;", 3, 5);
        wrong("rail 0 0;", 3, 5);
        wrong("rail 0", 3, 5);
        wrong("rail 00000;", 1, 5);
        wrong("gravity 201 x", 3, 8);
        wrong("gravity x 201", 1, 8);
        wrong("rail 5; rail x gravity 900", 2, 8);
        wrong("rail 5; x rail", 1, 8);
    }

    private static void errorPositionLasts() {
        CountedPendulum x = new CountedPendulum();
        Plants.parse(x, "rail 5; #");
        Checks.due("position", x.errorPosition(), 8);
        x.run(3);
        x.reset(1, 1);
        x.undo();
        Checks.due("position after other calls", x.errorPosition(), 8);
        Plants.parse(x, "#");
        Checks.due("position of a later error", x.errorPosition(), 0);
        Plants.parse(x, "rail 5;");
        Checks.due("position after a success", x.errorPosition(), -1);
    }

    private static void successStartsAnew() {
        CountedPendulum x = new CountedPendulum();
        x.reset(10, 4090);
        x.setMode(1);
        x.run(5);
        x.saveSnapshot(0);
        x.saveSnapshot(1);
        x.setForce(33);
        x.nudge(1, 500);
        x.run(600);
        Checks.due("there was a switch", x.state(6) > 0, true);
        Checks.due("there was a stop", x.state(7) > 0, true);
        Checks.due("parse", Plants.parse(x, "rail 3000; region 70 20 3 40;"), 0);
        Checks.sameText("as new", Plants.shown(x), Plants.shown(Plants.plant("rail 3000; region 70 20 3 40;")));
        Checks.due("undo", x.undo(), -1);
        Checks.throwsState("slot 0", () -> x.restoreSnapshot(0));
        Checks.throwsState("slot 1", () -> x.restoreSnapshot(1));
        Checks.due("slot 0 again", x.saveSnapshot(0), false);
        Checks.due("slot 1 again", x.saveSnapshot(1), false);
        Checks.due("a smaller region", Plants.parse(x, "region 70 20 1 40;"), 0);
        Checks.due("cells of it", x.cellsWith(0) + x.cellsWith(1) + x.cellsWith(2) + x.cellsWith(3) + x.cellsWith(4), 9);
        Checks.throwsIndex("no such cell", () -> x.reason(2, 0));
    }

    private static void successForgetsSwitches() {
        String text = "rail 9999; gravity 0 0; damping 0 0; push 0 0 1; couple 0; gains 0 0 0 0 0 0;"
                + "region 100 100 0 1; limit 20 9999; chatter 20 21 7;";
        CountedPendulum x = Plants.plant(text);
        x.reset(30, 30);
        x.setMode(1);
        x.run(400);
        for (int k = 0; k < 60 && x.state(4) == 0; k++) {
            x.run(1);
        }
        Checks.due("switches in words of any age", x.switchesIn(200) > 100, true);
        Checks.due("lock", x.state(4) > 0, true);
        Checks.due("parse", Plants.parse(x, text), 0);
        Checks.due("lock", x.state(4), 0);
        for (int k = 0; k < 200; k++) {
            Checks.due("no switches any more", x.switchesIn(200), 0);
            x.run(1);
        }
        Checks.due("no switches any more", x.state(6), 0);
    }

    private static void errorChangesNothing() {
        CountedPendulum x = new CountedPendulum();
        x.reset(10, 4090);
        x.setMode(1);
        x.run(5);
        x.saveSnapshot(1);
        x.nudge(2, -9);
        String before = Plants.shown(x);
        Checks.due("error", Plants.parse(x, "rail 1; gravity 1 1; region 9 9 1 1; limit 1 1; push 1 1 1"), 1);
        Checks.sameText("nothing changed", Plants.shown(x), before);
        Plants.append(x, "rail 1;");
        Checks.throwsArgument("length", () -> x.parse(21));
        Checks.sameText("nothing changed by an exception", Plants.shown(x), before);
        Checks.due("undo", x.undo(), 3);
        Checks.due("slot 1", x.restoreSnapshot(1), 5);
    }
}
