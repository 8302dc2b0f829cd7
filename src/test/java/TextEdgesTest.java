/** What PLANT TEXT and promises 1 to 4 say of boundaries: a test for each sentence, on both sides of its boundary. */
public final class TextEdgesTest {
    private static final String ALL_USUAL = "rail 4000;gravity 40 60;damping 8 8;push 1 1 60;couple 10;"
            + "gains 4 8 4 8 0 0;region 64 32 2 60;limit 512 1500;chatter 4 50 100;";
    private static final String[] STATEMENTS = {"rail 7;", "gravity 7 7;", "damping 7 7;", "push 7 7 7;", "couple 7;",
        "gains 7 7 7 7 7 7;", "region 7 7 2 7;", "limit 7 7;", "chatter 7 7 7;"};
    private static final String[] LIVELY = {"rail 3000;", "gravity 20 30;", "damping 8 9;", "push 1 2 20;", "couple 10;",
        "gains 8 16 6 9 1 2;", "region 100 90 2 6;", "limit 90 1200;", "chatter 2 20 5;"};

    public static void main(String[] args) {
        atMost500Bytes();
        anEmptyText();
        separators();
        separatorsDivideTokens();
        noSeparatorIsNeeded();
        letters();
        digits();
        wordsOf1To8Letters();
        numbersOf1To4Digits();
        anyOtherByte();
        eachStatementOnce();
        whatAppliesWithoutAStatement();
        usualEdges();
        tokensThatAreNotAllowed();
        textsThatEndTooEarly();
        secondOfASort();
        outOfRange();
        theSmallestPosition();
        theSmallestCode();
        aNewObject();
        appendUpTo500();
        nothingAppended();
        bytesOfAnArgument();
        lengthOfParse();
        onlyTheFirstBytes();
        bufferAfterParse();
        bufferAfterAnException();
        errorPositions();
        Checks.finish();
    }

    private static void right(String text) {
        CountedPendulum x = new CountedPendulum();
        Checks.due("parse of '" + text + "'", Plants.parse(x, text), 0);
        Checks.due("errorPosition of '" + text + "'", x.errorPosition(), -1);
    }

    private static void wrong(String text, int code, int position) {
        CountedPendulum x = new CountedPendulum();
        Checks.due("parse of '" + text + "'", Plants.parse(x, text), code);
        Checks.due("errorPosition of '" + text + "'", x.errorPosition(), position);
    }

    private static String filledUp(String text, int length) {
        return text + " ".repeat(length - text.length());
    }

    /** "A plant is described by a text of at most 500 bytes." */
    private static void atMost500Bytes() {
        right(filledUp(ALL_USUAL, 499));
        right(filledUp(ALL_USUAL, 500));
        right(filledUp("", 493) + "rail 5;");
        wrong(filledUp(ALL_USUAL, 499) + "#", 1, 499);
        wrong(filledUp(ALL_USUAL, 498) + "#", 1, 498);
        wrong(filledUp("", 494) + "rail 5", 1, 500);
        wrong(filledUp("rail", 500), 1, 500);
        wrong(filledUp("", 493) + "rail 0;", 3, 498);
        wrong(filledUp("", 495) + "rail0", 3, 499);
        wrong(filledUp("rail 5;", 496) + "rail", 2, 496);
        CountedPendulum x = Plants.plant(filledUp("", 488) + "push 1 1 77;");
        Checks.due("the last of 500 bytes count", x.state(5), 77);
    }

    /** A plant is any number of statements, and so none at all. */
    private static void anEmptyText() {
        CountedPendulum x = Plants.plant("push 1 1 7;");
        Checks.due("of an empty buffer", x.parse(0), 0);
        Checks.due("errorPosition", x.errorPosition(), -1);
        Checks.due("the usual force", x.state(5), 60);
        Plants.append(x, "push 1 1 7;");
        Checks.due("of a buffer that is not empty", x.parse(0), 0);
        Checks.due("the usual force", x.state(5), 60);
        right(" ");
        right("\n");
        right(filledUp("", 500));
    }

    /** "Spaces (byte 32) and line feeds (byte 10) separate tokens and are otherwise ignored." */
    private static void separators() {
        for (int sign = 0; sign < 256; sign++) {
            String between = String.valueOf((char) sign);
            if (sign == ' ' || sign == '\n') {
                right(between + "rail" + between + "5" + between + ";" + between);
                right(between + between + "push" + between + between + "1" + between + "1" + between + "7 \n;");
            } else {
                wrong("rail 5;" + between, 1, 7);
            }
        }
        Checks.due("ignored", Plants.plant(" \n push\n\n1  1 \n 7 ; \n").state(5), 7);
    }

    private static void separatorsDivideTokens() {
        wrong("ra il 5;", 1, 0);
        wrong("rai\nl 5;", 1, 0);
        wrong("rail 1 2;", 1, 7);
        wrong("rail 1\n2;", 1, 7);
        wrong("push 1 7;", 1, 8);
        wrong("push 1 1\n7 7;", 1, 11);
        Checks.due("three numbers", Plants.plant("push 1 1 7;").state(5), 7);
        Checks.due("three numbers", Plants.plant("push 1 1\n17;").state(5), 17);
    }

    /** A word and a number are maximal runs, so that they part without a separator. */
    private static void noSeparatorIsNeeded() {
        right("rail5;gravity1 2;limit9 9;");
        wrong("rail 5gravity 1 2;", 1, 6);
        wrong("rail 5;rail6;", 2, 7);
        Checks.due("force", Plants.plant("push1 1 77;").state(5), 77);
    }

    /** "a maximal run of letters a to z": the bytes next to a and z are none. */
    private static void letters() {
        // A letter more makes another word of it; another byte is a token of its own behind the word.
        wrong("raila 5;", 1, 0);
        wrong("railz 5;", 1, 0);
        wrong("rail` 5;", 1, 4);
        wrong("rail{ 5;", 1, 4);
        wrong("railA 5;", 1, 4);
        wrong("railZ 5;", 1, 4);
        wrong("rail@ 5;", 1, 4);
        wrong("rail[ 5;", 1, 4);
        wrong("RAIL 5;", 1, 0);
        wrong("rail\u00e1 5;", 1, 4);
    }

    /** "a maximal run of digits": the bytes next to 0 and 9 are none. */
    private static void digits() {
        wrong("rail 5/;", 1, 6);
        wrong("rail 5:;", 1, 6);
        wrong("rail /5;", 1, 5);
        wrong("rail :5;", 1, 5);
        wrong("rail 5\u00b2;", 1, 6);
        for (int digit = 0; digit <= 9; digit++) {
            CountedPendulum x = Plants.plant("push 1 1 1" + digit + ";gravity " + digit + " 1" + digit + ";");
            Checks.due("digit " + digit, x.state(5), 10 + digit);
            Checks.due("digit " + digit, x.target(1), 10430 * digit);
            Checks.due("digit " + digit, x.target(2), 10430 * (10 + digit));
        }
    }

    /** "1 to 8 letters": no statement's word has 1, 8 or 9, and all of them are errors of the same code. */
    private static void wordsOf1To8Letters() {
        wrong("r 5;", 1, 0);
        wrong("chatters 7 7 7;", 1, 0);
        wrong("chatterss 7 7 7;", 1, 0);
        wrong("railrail 5;", 1, 0);
        wrong("railrailr 5;", 1, 0);
        wrong("rail railrailr;", 1, 5);
        wrong("rail 5 railrailr;", 1, 7);
        wrong(" " + "rail".repeat(100), 1, 1);
        right("chatter 7 7 7;");
        // As long as a statement's word, but another.
        wrong("mail 5;", 1, 0);
        wrong("raid 5;", 1, 0);
        wrong("shatter 7 7 7;", 1, 0);
        wrong("chatted 7 7 7;", 1, 0);
    }

    /** "1 to 4 digits": a longer run is an invalid token, whatever its value would be. */
    private static void numbersOf1To4Digits() {
        right("rail 1;");
        right("rail 01;");
        right("rail 001;");
        right("rail 0001;");
        wrong("rail 00001;", 1, 5);
        right("rail 9999;");
        wrong("rail 10000;", 1, 5);
        wrong("rail 99999;", 1, 5);
        wrong("rail 0000;", 3, 5);
        wrong("rail 00000;", 1, 5);
        right("couple 0000;");
        wrong("couple 00000;", 1, 7);
        // Those have the values 5 and 0 if they are taken modulo 2 to the power of 32 or 64.
        wrong("rail 4294967301;", 1, 5);
        wrong("couple 18446744073709551616;", 1, 7);
        wrong("rail " + "0".repeat(490) + "5;", 1, 5);
        Checks.due("value of 4 digits", Plants.plant("push 0 0 0499;").state(5), 499);
    }

    /** "and any other byte, is an invalid token": wherever it stands. */
    private static void anyOtherByte() {
        String text = "push 1 2 77 ;";
        for (int place = 0; place <= text.length(); place++) {
            for (int sign : new int[] {0, 9, 11, 13, 31, 33, 35, 44, 45, 46, 47, 58, 60, 64, 65, 90, 91, 96, 123, 127, 128, 160, 255}) {
                // A number that the byte cuts is one still, but what is left of the word is none that is allowed.
                int position = place > 0 && place < 4 ? 0 : place;
                wrong(text.substring(0, place) + (char) sign + text.substring(place), 1, position);
            }
        }
    }

    /** "Each statement can occur once": in any order, and each by itself. */
    private static void eachStatementOnce() {
        right(String.join("", STATEMENTS));
        StringBuilder backwards = new StringBuilder();
        for (String statement : STATEMENTS) {
            right(statement);
            backwards.insert(0, statement);
        }
        right(backwards.toString());
        wrong(backwards + "rail 7;", 2, backwards.length());
    }

    /** "in parentheses what applies without the statement": as if it stood there with those numbers. */
    private static void whatAppliesWithoutAStatement() {
        String[] usual = ALL_USUAL.split(";");
        for (int without = 0; without < usual.length; without++) {
            StringBuilder others = new StringBuilder();
            for (int k = 0; k < LIVELY.length; k++) {
                others.append(k == without ? "" : LIVELY[k]);
            }
            for (int start = 0; start < 4; start++) {
                String silent = lifeOf(others.toString(), start);
                String written = lifeOf(others + usual[without] + ";", start);
                Checks.sameText("without " + usual[without], silent, written);
            }
        }
    }

    /** What applies without a statement, seen from edges that a number more or less would shift. */
    private static void usualEdges() {
        CountedPendulum x = Plants.plant("gravity 0 0; damping 0 0; push 0 0 60; couple 0; region 9 9 0 1;");
        x.setMode(1);
        x.run(1000);
        Checks.due("rail", x.state(2), 4000);
        for (int speed = 1500; speed <= 1501; speed++) {
            x.reset(0, 0);
            x.nudge(1, 500);
            x.nudge(1, 500);
            x.nudge(1, 499);
            x.nudge(1, speed - 1499);
            Checks.due("speed of limit", x.run(1), speed == 1500 ? 0 : 3);
        }
        for (int angle = 512; angle <= 513; angle++) {
            x.reset(angle, angle);
            x.setMode(2);
            Checks.due("angle of limit", x.run(1), angle == 512 ? 2 : 1);
        }
        String free = "gravity 0 0; damping 0 0; push 0 0 60; couple 0; gains 0 0 0 0 0 0; limit ";
        CountedPendulum y = Plants.plant(free + "183 999;");
        Checks.due("64 + 60 * 32 / 16 is above 183", y.reason(1, 1), 3);
        Checks.due("in step 60", y.failedStep(1, 1), 60);
        Checks.due("but not above 184, and there is no step 61", Plants.plant(free + "184 999;").reason(1, 1), 4);
        // Captured at each odd tick and given up at each even one.
        String flickering = free + "20 9999; region 100 100 0 1;";
        CountedPendulum z = Plants.plant(flickering);
        z.reset(30, 30);
        z.setMode(1);
        z.run(4);
        Checks.due("4 switches", z.state(4), 0);
        z.saveSnapshot(0);
        z.run(1);
        Checks.due("more than 4 switches", z.state(4), 100);
        z.restoreSnapshot(0);
        z.setMode(0);
        z.run(45);
        z.reset(30, 30);
        z.setMode(1);
        z.run(1);
        Checks.due("5 switches in 50 ticks", z.state(4), 100);
        z.restoreSnapshot(0);
        z.setMode(0);
        z.run(46);
        z.reset(30, 30);
        z.setMode(1);
        z.run(1);
        Checks.due("5 switches in 51 ticks", z.state(4), 0);
        Checks.due("5 switches in 51 ticks", z.state(6), 5);
    }

    /** What a plant shows of itself when it has swung for a while, from one start or another. */
    private static String lifeOf(String text, int start) {
        int[][] starts = {{60, 4080, -40}, {30, 30, 0}, {2000, 2100, 300}, {4000, 50, 10}};
        CountedPendulum x = Plants.at(text, starts[start][0], starts[start][1], starts[start][2], 0);
        x.setMode(1 + start % 2);
        StringBuilder life = new StringBuilder();
        for (int ticks : new int[] {1, 3, 16, 40, 120}) {
            x.run(ticks);
            for (int what = 0; what <= 8; what++) {
                life.append(x.state(what)).append(' ');
            }
            life.append(x.link(1, 0)).append(' ').append(x.link(2, 1)).append(' ').append(x.switchesIn(50)).append('\n');
        }
        return life.append(Plants.shown(x)).toString();
    }

    /** "a token that the grammar does not allow at this place": each sort of token at each place. */
    private static void tokensThatAreNotAllowed() {
        String[] odd = {"#", "gravitys", "abcdefghi", "12345"};
        for (String statement : STATEMENTS) {
            // Its tokens, with a semicolon as the last.
            String[] tokens = statement.replace(";", " ;").split(" ");
            String before = "";
            for (int place = 0; place <= tokens.length; place++) {
                boolean wordIsDue = place == 0 || place == tokens.length;
                boolean numberIsDue = !wordIsDue && place < tokens.length - 1;
                boolean semicolonIsDue = place == tokens.length - 1;
                for (String token : odd) {
                    wrong(before + token, 1, before.length());
                }
                if (!wordIsDue) {
                    wrong(before + "rail 7;", 1, before.length());
                    wrong(before + "chatter", 1, before.length());
                }
                if (!numberIsDue) {
                    wrong(before + "7;", 1, before.length());
                    wrong(before + "0", 1, before.length());
                    wrong(before + "9999 ;", 1, before.length());
                }
                if (!semicolonIsDue) {
                    wrong(before + ";", 1, before.length());
                }
                before += place < tokens.length ? tokens[place] + " " : "";
            }
            right(before);
        }
    }

    /** "if the text ends too early, it is the length of the text": behind each token but the last. */
    private static void textsThatEndTooEarly() {
        for (String statement : STATEMENTS) {
            String before = statement.startsWith("rail") ? "couple 1;" : "rail 100;";
            int word = statement.indexOf(' ');
            for (int end = 1; end < statement.length(); end++) {
                String text = statement.substring(0, end);
                wrong(text, 1, end < word ? 0 : end);
                wrong(text + " \n", 1, end < word ? 0 : end + 2);
                wrong(before + text, 1, end < word ? 9 : 9 + end);
            }
            right(statement);
            right(before);
            right(before + statement);
        }
    }

    /** "2: the word of a second statement of a sort." */
    private static void secondOfASort() {
        for (String statement : STATEMENTS) {
            String word = statement.substring(0, statement.indexOf(' '));
            wrong(statement + statement, 2, statement.length());
            wrong(statement + " " + word, 2, statement.length() + 1);
            wrong(statement + word + " 0", 2, statement.length());
            wrong(statement + word + " #", 2, statement.length());
            wrong(statement + word + "#", 2, statement.length());
            wrong(statement + word + "s", 1, statement.length());
            wrong(statement + word.substring(1), 1, statement.length());
            for (String other : STATEMENTS) {
                if (!other.equals(statement)) {
                    right(statement + other);
                    wrong(statement + other + statement, 2, statement.length() + other.length());
                    wrong(statement + other + other, 2, statement.length() + other.length());
                }
            }
        }
    }

    /** "3: a number out of its range": the least and the greatest number of each, and one beyond each. */
    private static void outOfRange() {
        bounds("rail", 1, 9999);
        bounds("gravity", 0, 200, 0, 200);
        bounds("damping", 0, 400, 0, 400);
        bounds("push", 0, 9, 0, 9, 1, 500);
        bounds("couple", 0, 200);
        bounds("gains", 0, 99, 0, 99, 0, 99, 0, 99, 0, 99, 0, 99);
        bounds("region", 1, 500, 1, 500, 0, 3, 1, 200);
        bounds("limit", 1, 2000, 1, 9999);
        bounds("chatter", 1, 20, 1, 200, 0, 999);
    }

    private static void bounds(String word, int... leastAndMost) {
        for (int which = 0; which < leastAndMost.length; which += 2) {
            int least = leastAndMost[which];
            int most = leastAndMost[which + 1];
            boundary(word, which, leastAndMost, least, 0);
            boundary(word, which, leastAndMost, most, 0);
            if (least > 0) {
                boundary(word, which, leastAndMost, least - 1, 3);
            }
            if (most < 9999) {
                boundary(word, which, leastAndMost, most + 1, 3);
                boundary(word, which, leastAndMost, 9999, 3);
            }
            // One more than 4 digits can say is an invalid token.
            boundary(word, which, leastAndMost, 10000, 1);
        }
    }

    private static void boundary(String word, int which, int[] leastAndMost, int value, int code) {
        StringBuilder text = new StringBuilder(word);
        int position = -1;
        for (int k = 0; k < leastAndMost.length; k += 2) {
            text.append(' ');
            if (k == which && code != 0) {
                position = text.length();
            }
            text.append(k == which ? value : leastAndMost[k]);
        }
        text.append(';');
        wrong(text.toString(), code, position);
    }

    /** "The error with the smallest position is reported." */
    private static void theSmallestPosition() {
        wrong("rail 0; #", 3, 5);
        wrong("# rail 0;", 1, 0);
        wrong("rail 5; rail 0;", 2, 8);
        wrong("rail 0; rail 5;", 3, 5);
        wrong("rail 5; rail 5; #", 2, 8);
        wrong("rail 5; # rail 5;", 1, 8);
        wrong("gravity 201 201;", 3, 8);
        wrong("gravity 200 201;", 3, 12);
        wrong("gravity 201 #", 3, 8);
        wrong("gravity # 201", 1, 8);
        wrong("gravity 201", 3, 8);
        wrong("gravity 201 5 5;", 3, 8);
        wrong("limit 1 0; limit 1 1; x", 3, 8);
    }

    /** "If several codes apply at one position, the smallest is reported." */
    private static void theSmallestCode() {
        // A second word of its sort at a place where no word may stand.
        wrong("rail 5; gravity rail 5;", 1, 16);
        wrong("rail 5 rail 5;", 1, 7);
        wrong("rail rail 5;", 1, 5);
        // A number out of every range that is too long, or at a place where no number may stand.
        wrong("gravity 20000 5;", 1, 8);
        wrong("gravity 5 6 9999;", 1, 12);
        wrong("9999", 1, 0);
        wrong("rail 5;0;", 1, 7);
    }

    /** Promise 1: "Creates the plant that the empty text describes, with an empty input buffer." */
    private static void aNewObject() {
        CountedPendulum x = new CountedPendulum();
        Checks.throwsArgument("parse(1) of a new object", () -> x.parse(1));
        Checks.due("errorPosition of a new object", x.errorPosition(), -1);
        Checks.due("undo of a new object", x.undo(), -1);
        Checks.due("the buffer's first 20 bytes", x.append(0, 0, 0, 0, 0), 20);
        CountedPendulum y = new CountedPendulum();
        CountedPendulum z = new CountedPendulum();
        Checks.due("parse(0) of a new object", z.parse(0), 0);
        Checks.sameText("the plant of the empty text", Plants.shown(y), Plants.shown(z));
    }

    private static int appendSpaces(CountedPendulum x) {
        return x.append(0x20202020, 0x20202020, 0x20202020, 0x20202020, 0x20202020);
    }

    private static CountedPendulum withSpaces(int bytes) {
        CountedPendulum x = new CountedPendulum();
        for (int length = 20; length <= bytes; length += 20) {
            Checks.due("append", appendSpaces(x), length);
        }
        return x;
    }

    /** Promise 2: "the new length of the buffer; NONE, with nothing appended, if it would exceed 500". */
    private static void appendUpTo500() {
        CountedPendulum x = withSpaces(480);
        Checks.throwsArgument("481 of 480 bytes", () -> x.parse(481));
        Checks.due("append up to 500", appendSpaces(x), 500);
        Checks.due("append beyond 500", appendSpaces(x), RailPendulum.NONE);
        Checks.due("append beyond 500 again", appendSpaces(x), RailPendulum.NONE);
        Checks.throwsArgument("501 of 500 bytes", () -> x.parse(501));
        Checks.throwsArgument("520 of 500 bytes", () -> x.parse(520));
        Checks.due("500 of 500 bytes", x.parse(500), 0);
    }

    private static void nothingAppended() {
        CountedPendulum x = withSpaces(480);
        Checks.due("append", x.append(0x20202020, 0x20202020, 0x70757368, 0x20312031, 0x2037373B), 500);
        Checks.due("append beyond 500", x.append(-1, -1, -1, -1, -1), RailPendulum.NONE);
        Checks.due("parse", x.parse(500), 0);
        Checks.due("the last 20 bytes are as they were", x.state(5), 77);
        Checks.due("a new text is not begun with what was refused", appendSpaces(x), 20);
        Checks.due("parse", x.parse(20), 0);
    }

    /** "the four bytes of each argument, the most significant byte first" */
    private static void bytesOfAnArgument() {
        int spaces = 0x20202020;
        int[] arguments = {0x23202020, 0x20232020, 0x20202320, 0x20202023, 0x80202020, 0xFF202020, 0x202020FF,
            0x20FF2020, 0x2020FF20, 0x00202020, 0x7F202020, Integer.MIN_VALUE, Integer.MAX_VALUE, -1, 0, 1};
        int[] places = {0, 1, 2, 3, 0, 0, 3, 1, 2, 0, 0, 0, 0, 0, 0, 0};
        for (int k = 0; k < arguments.length; k++) {
            int odd = arguments[k];
            int[][] rows = {{odd, spaces, spaces, spaces, spaces}, {spaces, odd, spaces, spaces, spaces},
                {spaces, spaces, odd, spaces, spaces}, {spaces, spaces, spaces, odd, spaces}, {spaces, spaces, spaces, spaces, odd}};
            for (int which = 0; which < 5; which++) {
                int[] row = rows[which];
                CountedPendulum x = new CountedPendulum();
                Checks.due("append", x.append(row[0], row[1], row[2], row[3], row[4]), 20);
                Checks.due("parse of " + odd + " as argument " + which, x.parse(20), 1);
                Checks.due("its place", x.errorPosition(), 4 * which + places[k]);
            }
        }
        CountedPendulum y = new CountedPendulum();
        // "push", " 1 2", " 123", "; ra", "il 5" and ";"
        y.append(0x70757368, 0x20312032, 0x20313233, 0x3B207261, 0x696C2035);
        y.append(0x3B202020, spaces, spaces, spaces, spaces);
        Checks.due("a word that goes on in the next argument", y.parse(21), 0);
        Checks.due("force", y.state(5), 123);
    }

    /** Promise 3: "length: 0 to the length of the buffer". */
    private static void lengthOfParse() {
        for (int bytes : new int[] {0, 20, 500}) {
            for (int length : new int[] {-1, bytes + 1, Integer.MIN_VALUE, Integer.MAX_VALUE}) {
                CountedPendulum x = withSpaces(bytes);
                Checks.throwsArgument("parse(" + length + ") of " + bytes, () -> x.parse(length));
                Checks.due("the buffer is as it was", x.parse(bytes), 0);
            }
            for (int length : new int[] {0, bytes}) {
                CountedPendulum x = withSpaces(bytes);
                Checks.due("parse(" + length + ") of " + bytes, x.parse(length), 0);
            }
        }
    }

    /** "Parses the first length bytes": the rest is neither read nor kept. */
    private static void onlyTheFirstBytes() {
        String text = "rail 5;push 1 1 77;#";
        int[] codes = {0, 1, 1, 1, 1, 1, 1, 0, 1, 1, 1, 1, 1, 1, 1, 1, 1, 1, 1, 0, 1};
        int[] positions = {-1, 0, 0, 0, 4, 5, 6, -1, 7, 7, 7, 11, 12, 13, 14, 15, 16, 17, 18, -1, 19};
        for (int length = 0; length <= 20; length++) {
            CountedPendulum x = new CountedPendulum();
            Plants.append(x, text);
            Checks.due("parse(" + length + ")", x.parse(length), codes[length]);
            Checks.due("errorPosition", x.errorPosition(), positions[length]);
            Checks.due("force", x.state(5), length == 19 ? 77 : 60);
            Checks.throwsArgument("nothing is kept", () -> x.parse(1));
        }
        // A word, a number or a statement that the bytes behind the length would make wrong.
        String[] cut = {"rail|x 5;", "rail 5;|rail 6;", "couple 0001|1;", "couple 200|0;", "rail 5;|#", "chatter 7 7 7|7;"};
        int[] errors = {1, 0, 1, 1, 0, 1};
        for (int k = 0; k < cut.length; k++) {
            int length = cut[k].indexOf('|');
            CountedPendulum x = new CountedPendulum();
            Plants.append(x, cut[k].replace("|", ""));
            Checks.due("parse of '" + cut[k] + "'", x.parse(length), errors[k]);
            Checks.due("errorPosition of '" + cut[k] + "'", x.errorPosition(), errors[k] == 0 ? -1 : length);
        }
    }

    /** "On a parse error nothing changes except that the buffer is emptied; it is also empty after a success." */
    private static void bufferAfterParse() {
        CountedPendulum x = new CountedPendulum();
        Plants.append(x, "rail 5; #");
        Checks.due("error", x.parse(9), 1);
        Checks.throwsArgument("empty after an error", () -> x.parse(1));
        Checks.due("empty after an error", appendSpaces(x), 20);
        Checks.due("success", x.parse(3), 0);
        Checks.throwsArgument("empty after a success", () -> x.parse(1));
        Checks.due("empty after a success", appendSpaces(x), 20);
        Checks.due("the bytes from before are not there", x.parse(20), 0);
    }

    private static void bufferAfterAnException() {
        CountedPendulum x = new CountedPendulum();
        Plants.append(x, "push 1 1 7;");
        Checks.throwsArgument("one too many", () -> x.parse(21));
        Checks.throwsArgument("one too few", () -> x.parse(-1));
        Checks.due("append", appendSpaces(x), 40);
        Checks.due("parse", x.parse(40), 0);
        Checks.due("force", x.state(5), 7);
    }

    /** Promise 4: "the last call of parse that did not throw an exception"; "NONE if that call succeeded or there was none". */
    private static void errorPositions() {
        CountedPendulum x = new CountedPendulum();
        Checks.due("there was none", x.errorPosition(), -1);
        Checks.throwsArgument("parse", () -> x.parse(1));
        Checks.due("an exception only", x.errorPosition(), -1);
        Checks.due("error", Plants.parse(x, "#"), 1);
        Checks.due("at the first byte", x.errorPosition(), 0);
        Checks.throwsArgument("parse", () -> x.parse(1));
        Checks.due("an exception behind an error", x.errorPosition(), 0);
        Checks.due("error", Plants.parse(x, filledUp("rail", 500)), 1);
        Checks.due("behind the last byte", x.errorPosition(), 500);
        Checks.due("success", x.parse(0), 0);
        Checks.due("a success behind an error", x.errorPosition(), -1);
        Checks.throwsArgument("parse", () -> x.parse(1));
        Checks.due("an exception behind a success", x.errorPosition(), -1);
        Checks.due("error", Plants.parse(x, "rail 0;"), 3);
        x.saveSnapshot(0);
        x.run(1);
        x.undo();
        x.restoreSnapshot(0);
        x.append(0, 0, 0, 0, 0);
        Checks.due("no other call moves it", x.errorPosition(), 5);
    }
}
