/** The document's terms, '==== 1.' to '==== 4.': a test for each of their words that names an edge. */
public final class EdgesOfTermsTest {
    private static final int NONE = TouchSheet.NONE;
    private static final String TERMS = "Terms";

    public static void main(String[] args) {
        atMost512Calls();
        none();
        pinsAndShapes();
        pinsOfLines();
        farAndNear();
        simpler();
        keptAndSheets();
        textures();
        printed();
        finger();
        Doc.hasNoEdgeLeft(TERMS);
        Due.end();
    }

    private static TouchSheet line(int... places) {
        TouchSheet t = new TouchSheet();
        addLine(t, places);
        return t;
    }

    private static void addLine(TouchSheet t, int... places) {
        for (int k = 0; k + 1 < places.length; k += 2) {
            t.corner(places[k], places[k + 1]);
        }
        t.line(1);
    }

    /** GROUNDS of one PIN each. */
    private static TouchSheet dots(int... places) {
        TouchSheet t = new TouchSheet();
        for (int k = 0; k + 1 < places.length; k += 2) {
            t.ground(places[k], places[k + 1], places[k], places[k + 1], 1);
        }
        return t;
    }

    /** The SHAPE has these PINS and no more. */
    private static void hasPins(String what, TouchSheet t, int i, int... places) {
        Due.due(what + ", how many", t.of(i, 2), places.length / 2);
        for (int k = 0; k + 1 < places.length; k += 2) {
            Due.due(what + ", " + places[k] + ", " + places[k + 1], t.pin(i, places[k], places[k + 1]), 1);
        }
    }

    private static void atMost512Calls() {
        Doc.says("What it is", "An object is used for at most 512 calls after it has been made");
        TouchSheet t = new TouchSheet();
        int calls = 0;
        for (int round = 0; round < 63; round++) {
            Due.due("corner in round " + round, t.corner(0, 0), 1);
            Due.due("line in round " + round, t.line(1), 0);
            Due.due("mark in round " + round, t.mark(1, 0, 9), 1);
            Due.due("kept in round " + round, t.kept(), 2);
            Due.due("print in round " + round, t.print(3), 4);
            Due.due("sheets in round " + round, t.sheets(), 2);
            Due.due("undo in round " + round, t.undo(), true);
            Due.due("undo again in round " + round, t.undo(), true);
            calls += 8;
        }
        for (; calls < 511; calls++) {
            t.mark(23, 23, 5);
        }
        Due.due("the 512th call: six of seven marks are lost", t.loss(), 5 * 6);
        Due.due("which it is", calls + 1, 512);
    }

    private static void none() {
        Doc.says(TERMS, "`NONE = -1`: There is none.");
        Due.due("NONE", TouchSheet.NONE, -1);
    }

    private static void pinsAndShapes() {
        pins0To23();
        shapes0To11();
        worth1To9();
        line1To8();
        groundOfAllBetween();
        markAsFarAsPins();
    }

    private static void pins0To23() {
        Doc.says(TERMS, "PINS: x, y 0 .. 23.");
        int[] ends = {0, 23};
        for (int x : ends) {
            for (int y : ends) {
                TouchSheet t = new TouchSheet();
                Due.due("a corner at an end", t.corner(x, y), 1);
                Due.due("a mark at an end", t.mark(x, y, 1), 0);
                Due.due("a ground at an end", t.ground(x, y, x, y, 1), 1);
                Due.due("pin at an end", t.pin(0, x, y), 1);
                t.print(1);
                Due.due("up at an end", t.up(x, y), 1);
            }
        }
        for (int no : Outside.of(0, 23)) {
            for (int end : ends) {
                noPin(no, end);
                noPin(end, no);
            }
            noPin(no, no);
        }
    }

    private static void noPin(int x, int y) {
        String place = " at " + x + ", " + y;
        TouchSheet t = new TouchSheet();
        t.ground(0, 0, 23, 23, 1);
        t.print(1);
        Due.due("corner" + place, t.corner(x, y), NONE);
        Due.due("mark" + place, t.mark(x, y, 1), NONE);
        Due.due("ground" + place, t.ground(x, y, x, y, 1), NONE);
        Due.due("ground from 0, 0 to one" + place, t.ground(0, 0, x, y, 1), NONE);
        Due.due("ground to 23, 23 from one" + place, t.ground(x, y, 23, 23, 1), NONE);
        Due.due("pin" + place, t.pin(0, x, y), NONE);
        Due.due("up" + place, t.up(x, y), NONE);
    }

    private static void shapes0To11() {
        Doc.says(TERMS, "SHAPES 0 .. 11, numbered as they come");
        TouchSheet t = new TouchSheet();
        for (int i = 0; i < 12; i++) {
            t.corner(i, i);
            int number = i % 3 == 0 ? t.line(1) : i % 3 == 1 ? t.ground(i, 0, i, 0, 1) : t.mark(i, 5, 1);
            Due.due("shape " + i, number, i);
            Due.due("its kind", t.of(i, 0), i % 3);
        }
        Due.due("a thirteenth", t.mark(0, 0, 1), NONE);
        for (int no : Outside.of(0, 11)) {
            Due.due("shape " + no, t.of(no, 0), NONE);
        }
    }

    private static void worth1To9() {
        Doc.says(TERMS, "with a WORTH (1 .. 9)");
        TouchSheet t = new TouchSheet();
        for (int worth = 1; worth <= 9; worth++) {
            t.corner(1, 1);
            int kind = worth % 3;
            int number = kind == 0 ? t.line(worth) : kind == 1 ? t.ground(0, 0, 1, 1, worth) : t.mark(4, 4, worth);
            Due.due("a shape of worth " + worth, number, worth - 1);
            Due.due("its worth", t.of(number, 1), worth);
        }
        for (int no : Outside.of(1, 9)) {
            Due.due("line of worth " + no, t.line(no), NONE);
            Due.due("ground of worth " + no, t.ground(0, 0, 1, 1, no), NONE);
            Due.due("mark of worth " + no, t.mark(0, 0, no), NONE);
        }
    }

    private static void line1To8() {
        Doc.says(TERMS, "a LINE by 1 to 8 CORNERS");
        Due.due("a line by none", new TouchSheet().line(1), NONE);
        for (int many = 1; many <= 9; many++) {
            TouchSheet t = new TouchSheet();
            for (int k = 0; k < many; k++) {
                t.corner(2 * k, k);
            }
            Due.due("a line by " + many, t.line(1), 0);
            Due.due("its corners", t.of(0, 3), Math.min(many, 8));
            Due.due("x of the last", t.of(0, 8 + 2 * Math.min(many, 8)), 2 * Math.min(many, 8) - 2);
        }
    }

    private static void groundOfAllBetween() {
        Doc.says(TERMS, "a GROUND: all PINS x0 .. x1, y0 .. y1");
        int[][] boxes = {{0, 0, 0, 0}, {23, 23, 23, 23}, {0, 0, 23, 23}, {0, 5, 23, 5}, {5, 0, 5, 23}, {7, 9, 8, 11}};
        for (int[] b : boxes) {
            for (int y = 0; y < 24; y++) {
                TouchSheet t = new TouchSheet();
                t.ground(b[0], b[1], b[2], b[3], 1);
                Due.due("how many", t.of(0, 2), (b[2] - b[0] + 1) * (b[3] - b[1] + 1));
                for (int x = 0; x < 24; x++) {
                    boolean between = x >= b[0] && x <= b[2] && y >= b[1] && y <= b[3];
                    Due.due("a ground's pin " + x + ", " + y, t.pin(0, x, y), between ? 1 : 0);
                }
            }
        }
    }

    private static void markAsFarAsPins() {
        Doc.says(TERMS, "a MARK: a PIN and the four beside it, as far as they are PINS.");
        TouchSheet t = new TouchSheet();
        t.mark(0, 0, 1);
        t.mark(23, 0, 1);
        t.mark(0, 23, 1);
        t.mark(23, 23, 1);
        t.mark(0, 9, 1);
        t.mark(23, 9, 1);
        t.mark(9, 0, 1);
        t.mark(9, 23, 1);
        t.mark(1, 22, 1);
        hasPins("a mark at 0, 0", t, 0, 0, 0, 1, 0, 0, 1);
        hasPins("a mark at 23, 0", t, 1, 23, 0, 22, 0, 23, 1);
        hasPins("a mark at 0, 23", t, 2, 0, 23, 1, 23, 0, 22);
        hasPins("a mark at 23, 23", t, 3, 23, 23, 22, 23, 23, 22);
        hasPins("a mark at the left", t, 4, 0, 9, 1, 9, 0, 8, 0, 10);
        hasPins("a mark at the right", t, 5, 23, 9, 22, 9, 23, 8, 23, 10);
        hasPins("a mark at the top", t, 6, 9, 0, 8, 0, 10, 0, 9, 1);
        hasPins("a mark at the bottom", t, 7, 9, 23, 8, 23, 10, 23, 9, 22);
        hasPins("a mark one off the ends", t, 8, 1, 22, 0, 22, 2, 22, 1, 21, 1, 23);
    }

    private static void pinsOfLines() {
        Doc.says(TERMS, "of one CORNER that PIN");
        hasPins("a line of one corner", line(23, 0), 0, 23, 0);
        Doc.says(TERMS, "(0: the CORNER alone)");
        hasPins("a step of none", line(4, 7, 4, 7), 0, 4, 7);
        hasPins("eight times the same", line(0, 0, 0, 0, 0, 0, 0, 0, 0, 0, 0, 0, 0, 0, 0, 0), 0, 0, 0);
        hasPins("a step of none between others", line(1, 1, 2, 1, 2, 1, 2, 2), 0, 1, 1, 2, 1, 2, 2);
        hasPins("a step of one", line(5, 5, 4, 6), 0, 5, 5, 4, 6);
        wholeStep();
        dividedDownwards();
    }

    private static void wholeStep() {
        Doc.says(TERMS, "for k 0 .. n: x0 + (2 k dx + n) / 2 n, and y likewise");
        int[][] steps = {{0, 0, 23, 23}, {23, 23, 0, 0}, {0, 23, 23, 0}, {23, 0, 0, 23}, {0, 4, 23, 4}, {23, 4, 0, 4},
            {4, 0, 4, 23}, {4, 23, 4, 0}};
        for (int[] s : steps) {
            TouchSheet t = line(s);
            Due.due("a step from side to side", t.of(0, 2), 24);
            for (int k = 0; k < 24; k++) {
                int x = s[0] + k * Integer.signum(s[2] - s[0]);
                int y = s[1] + k * Integer.signum(s[3] - s[1]);
                Due.due("its pin " + k, t.pin(0, x, y), 1);
            }
        }
    }

    private static void dividedDownwards() {
        Doc.says(TERMS, "(both divided downwards)");
        // Half way, (2 k d + n) / 2 n with n 2 is 0 / 4 for d -1 and 4 / 4 for d 1; at the end -2 / 4, downwards -1.
        hasPins("y less by 1 in 2", line(5, 5, 7, 4), 0, 5, 5, 6, 5, 7, 4);
        hasPins("y more by 1 in 2", line(5, 5, 7, 6), 0, 5, 5, 6, 6, 7, 6);
        hasPins("x less by 1 in 2", line(5, 5, 4, 7), 0, 5, 5, 5, 6, 4, 7);
        hasPins("x more by 1 in 2", line(5, 5, 6, 7), 0, 5, 5, 6, 6, 6, 7);
        // y: (4 - 4 k) / 8 is 0, 0, -1 (-4 / 8), -1, -2 (-12 / 8) downwards.
        hasPins("y less by 2 in 4", line(10, 10, 6, 8), 0, 10, 10, 9, 10, 8, 9, 7, 9, 6, 8);
        // x: (7 - 4 k) / 14 is 0, 0, -1 (-1 / 14), -1, -1, -1, -2 (-17 / 14), -2 (-21 / 14).
        hasPins("x less by 2 in 7", line(2, 0, 0, 7), 0, 2, 0, 2, 1, 1, 2, 1, 3, 1, 4, 1, 5, 0, 6, 0, 7);
    }

    private static void farAndNear() {
        Doc.says(TERMS, "the least, over PINS of the one and of the other, of the greater of |dx|, |dy|");
        TouchSheet t = dots(0, 0, 23, 23, 23, 0, 1, 1, 9, 11);
        Due.due("from end to end", t.far(0, 1), 23);
        Due.due("along a side", t.far(0, 2), 23);
        Due.due("aslant beside", t.far(0, 3), 1);
        Due.due("the greater of 9 and 11", t.far(0, 4), 11);
        Doc.says(TERMS, "(0 if they have one in common)");
        t.ground(9, 11, 12, 12, 1);
        t.mark(12, 13, 1);
        addLine(t, 0, 0, 23, 23);
        Due.due("one pin inside", t.far(4, 5), 0);
        Due.due("one pin in common", t.far(5, 6), 0);
        Due.due("a line at its end", t.far(7, 1), 0);
        Due.due("with itself", t.far(2, 2), 0);
        belowGap();
        gap1To6();
        notToldToMeet();
    }

    private static void belowGap() {
        Doc.says(TERMS, "if FAR is below GAP");
        for (int gap = 1; gap <= 6; gap++) {
            for (int far = 0; far <= 7; far++) {
                TouchSheet t = dots(3, 3, 3 + far, 3);
                t.gap(gap);
                boolean near = far < gap;
                Due.due("sheets, far " + far + ", gap " + gap, t.sheets(), near ? 2 : 1);
                Due.due("kept, far " + far + ", gap " + gap, t.kept(), near ? 1 : 3);
            }
        }
    }

    private static void gap1To6() {
        Doc.says(TERMS, "(1 .. 6, at first 2)");
        TouchSheet t = dots(0, 0, 1, 0, 10, 10, 12, 10);
        Due.due("at first", t.look(2), 2);
        Due.due("far 1 is near at first, far 2 is not", t.kept(), 0b1101);
        for (int gap = 1; gap <= 6; gap++) {
            Due.due("gap " + gap, t.gap(gap), true);
        }
        for (int no : Outside.of(1, 6)) {
            Due.due("gap " + no, t.gap(no), false);
        }
    }

    private static void notToldToMeet() {
        Doc.says(TERMS, "and it is not told that they MEET.");
        TouchSheet t = dots(3, 3, 3, 3, 3, 3);
        t.meet(0, 2, true);
        Due.due("0 and 2 meet, though on one pin", t.kept(), 0b101);
        Due.due("1 meets none", t.sheet(1), 1);
        t.gap(6);
        Due.due("by any gap", t.kept(), 0b101);
        t.meet(2, 0, false);
        Due.due("no more", t.kept(), 0b001);
    }

    private static void simpleIs(String what, TouchSheet t, int bound, int set) {
        Due.due(what + ", which", t.simple(0, bound, 1), set);
        Due.due(what + ", how many", t.simple(0, bound, 0), Integer.bitCount(set));
    }

    private static void simpler() {
        bound0To30();
        firstAndLastStay();
        atMostD();
        exactSquares();
        nearestPoint();
        fewestThenFirst();
    }

    private static void bound0To30() {
        Doc.says(TERMS, "with a bound D (0 .. 30)");
        simpleIs("0: on the step", line(0, 0, 5, 5, 9, 9), 0, 0b101);
        simpleIs("0: one off it", line(0, 0, 5, 6, 9, 9), 0, 0b111);
        // 21 * 21 + 21 * 21 is 882, 21 * 21 + 22 * 22 is 925: 30 lies between.
        simpleIs("30: 882 off", line(0, 0, 21, 21, 0, 0), 30, 0b101);
        simpleIs("30: 925 off", line(0, 0, 21, 22, 0, 0), 30, 0b111);
        simpleIs("30: from end to end", line(23, 0, 0, 23, 23, 0), 30, 0b111);
        TouchSheet t = line(0, 0, 5, 5, 9, 9);
        for (int no : Outside.of(0, 30)) {
            Due.due("simple by " + no, t.simple(0, no, 0), NONE);
            Due.due("simplify by " + no, t.simplify(0, no), NONE);
        }
    }

    private static void firstAndLastStay() {
        Doc.says(TERMS, "keeps its first and last CORNER");
        int[] bounds = {0, 1, 30};
        for (int bound : bounds) {
            simpleIs("one corner", line(7, 7), bound, 0b1);
            simpleIs("two corners", line(7, 7, 8, 7), bound, 0b11);
            simpleIs("two on one pin", line(7, 7, 7, 7), bound, 0b11);
            simpleIs("three on one pin", line(7, 7, 7, 7, 7, 7), bound, 0b101);
            simpleIs("eight in a row", line(0, 1, 1, 1, 2, 1, 3, 1, 4, 1, 5, 1, 6, 1, 7, 1), bound, 0b10000001);
        }
    }

    private static void atMostD() {
        Doc.says(TERMS, "so that each one left out lies at most D");
        for (int bound = 0; bound <= 23; bound++) {
            simpleIs("just " + bound + " off", line(0, 0, 12, bound, 23, 0), bound, 0b101);
            if (bound < 23) {
                simpleIs("one more than " + bound + " off", line(0, 0, 12, bound + 1, 23, 0), bound, 0b111);
            }
        }
        // From the first to the last two are 3 off, but one is 4 off.
        simpleIs("each one", line(0, 10, 5, 13, 10, 14, 15, 13, 20, 10), 3, 0b10011);
        simpleIs("each one by 4", line(0, 10, 5, 13, 10, 14, 15, 13, 20, 10), 4, 0b10001);
    }

    private static void exactSquares() {
        Doc.says(TERMS, "by exact squares");
        // Aside of a step of 1, 1 by 17: 17 * 17 is 289, 12 * 12 * 2 is 288.
        simpleIs("289 is above 288", line(5, 10, 14, 2, 6, 11), 12, 0b111);
        simpleIs("289 is below 338", line(5, 10, 14, 2, 6, 11), 13, 0b101);
        // By 41: 41 * 41 is 1681, 29 * 29 * 2 is 1682.
        simpleIs("1681 is below 1682", line(1, 21, 22, 1, 2, 22), 29, 0b101);
        simpleIs("1681 is above 1568", line(1, 21, 22, 1, 2, 22), 28, 0b111);
        // By 7 of 1, 1: 49 is below 5 * 5 * 2.
        simpleIs("49 is below 50", line(5, 5, 9, 2, 6, 6), 5, 0b101);
    }

    private static void nearestPoint() {
        Doc.says(TERMS, "to the nearest point of that step");
        simpleIs("4 ahead of it in its row by 3", line(4, 0, 0, 0, 9, 0), 3, 0b111);
        simpleIs("4 ahead of it in its row by 4", line(4, 0, 0, 0, 9, 0), 4, 0b101);
        simpleIs("4 behind it in its row by 3", line(0, 0, 9, 0, 5, 0), 3, 0b111);
        simpleIs("4 behind it in its row by 4", line(0, 0, 9, 0, 5, 0), 4, 0b101);
        simpleIs("3, 4 behind its end by 4", line(0, 0, 13, 4, 10, 0), 4, 0b111);
        simpleIs("3, 4 behind its end by 5", line(0, 0, 13, 4, 10, 0), 5, 0b101);
        simpleIs("just beside its end", line(0, 0, 10, 4, 10, 0), 4, 0b101);
        simpleIs("just beside its beginning", line(0, 0, 0, 4, 10, 0), 4, 0b101);
        simpleIs("a step of none by 4", line(6, 6, 9, 10, 6, 6), 4, 0b111);
        simpleIs("a step of none by 5", line(6, 6, 9, 10, 6, 6), 5, 0b101);
    }

    private static void fewestThenFirst() {
        Doc.says(TERMS, "The fewest CORNERS kept");
        simpleIs("none can be left out", line(0, 0, 9, 0, 9, 9, 0, 9, 0, 1, 8, 1, 8, 8, 1, 8), 0, 0b11111111);
        simpleIs("all but two can", line(0, 0, 9, 0, 9, 9, 0, 9, 0, 1, 8, 1, 8, 8, 1, 8), 13, 0b10000001);
        Doc.says(TERMS, "of several the first by their numbers (the lesser first at the first unlikeness)");
        // A corner told three times: any of the three will do.
        simpleIs("any of three", line(0, 0, 10, 0, 10, 0, 10, 0, 10, 10), 0, 0b10011);
        // Two such corners: any of 1, 2 and then any of 3, 4.
        simpleIs("any of two, twice", line(0, 0, 10, 0, 10, 0, 10, 10, 10, 10, 20, 10), 0, 0b101011);
    }

    private static void keptAndSheets() {
        keptTies();
        sheetsFewest();
    }

    private static void keptTies() {
        Doc.says(TERMS, "of which no two are NEAR the one with the greatest sum of WORTHS");
        Due.due("of none", new TouchSheet().kept(), 0);
        TouchSheet worth = new TouchSheet();
        worth.mark(5, 5, 8);
        worth.mark(5, 5, 9);
        worth.mark(5, 5, 8);
        Due.due("one of three", worth.kept(), 0b010);
        Doc.says(TERMS, "of these with the most SHAPES");
        TouchSheet most = new TouchSheet();
        most.ground(0, 0, 9, 0, 9);
        for (int k = 0; k < 9; k += 2) {
            most.ground(k, 1, k, 1, k == 0 ? 1 : 2);
        }
        Due.due("five of 9 instead of one of 9", most.kept(), 0b111110);
        Doc.says(TERMS, "then the least as a number (SHAPE i counts 2 to the i)");
        TouchSheet all = new TouchSheet();
        for (int i = 0; i < 12; i++) {
            all.mark(9, 9, 9);
        }
        Due.due("one of twelve alike", all.kept(), 1);
        // A ring 0 - 1 - 3 - 2: 0 and 3 make 1001, 1 and 2 make 0110.
        TouchSheet ring = dots(2, 0, 0, 2, 4, 2, 2, 4);
        ring.gap(3);
        Due.due("a lesser number without the first", ring.kept(), 0b0110);
        TouchSheet twelve = new TouchSheet();
        for (int i = 0; i < 12; i++) {
            twelve.mark(i % 4 * 7, i / 4 * 9, 9);
        }
        Due.due("all twelve", twelve.kept(), 4095);
    }

    private static void sheetsFewest() {
        Doc.says(TERMS, "no two NEAR ones on one: the fewest SHEETS");
        Due.due("of none", new TouchSheet().sheets(), 0);
        TouchSheet t = new TouchSheet();
        for (int i = 0; i < 12; i++) {
            t.mark(9, 9, 1);
            Due.due("all near: one each", t.sheets(), i + 1);
        }
        for (int i = 0; i < 12; i++) {
            Due.due("in their order", t.sheet(i), i);
        }
        Doc.says(TERMS, "SHAPE 0, 1, .. each on the least SHEET with which it can be done still (with as few SHEETS)");
        // A chain 0 - 2 - 3 - 1: were 1 on the first, 2 and 3 would need a third.
        TouchSheet chain = dots(0, 0, 3, 0, 1, 0, 2, 0);
        int[] want = {0, 1, 1, 0};
        for (int i = 0; i < 4; i++) {
            Due.due("a chain, sheet of " + i, chain.sheet(i), want[i]);
        }
        Due.due("a chain", chain.sheets(), 2);
    }

    private static void textures() {
        textures0To3();
        apartAtFirst();
        price0To99();
        neighbours3AtMost();
        leastSumThenFirst();
        whoHasNone();
    }

    private static void textures0To3() {
        Doc.says(TERMS, "TEXTURES 0 .. 3");
        TouchSheet t = dots(5, 5, 5, 5, 5, 5, 5, 5);
        for (int i = 0; i < 4; i++) {
            Due.due("four beside each other", t.texture(i), i);
        }
        for (int no : Outside.of(0, 3)) {
            Due.due("price of " + no, t.price(no, 1), false);
            Due.due("apart of " + no + " and 0", t.apart(no, 0, false), false);
            Due.due("apart of 3 and " + no, t.apart(3, no, false), false);
        }
    }

    private static void apartAtFirst() {
        Doc.says(TERMS, "(at first all unlike ones)");
        for (int s = 0; s < 4; s++) {
            for (int u = 0; u < 4; u++) {
                Due.due("told again that " + s + " and " + u + " are apart", new TouchSheet().apart(s, u, true), false);
                Due.due("told that " + s + " and " + u + " are not", new TouchSheet().apart(s, u, false), s != u);
            }
        }
    }

    private static void price0To99() {
        Doc.says(TERMS, "(0 .. 99, at first the number)");
        for (int texture = 0; texture < 4; texture++) {
            TouchSheet t = dots(5, 5);
            for (int other = 0; other < 4; other++) {
                if (other != texture) {
                    Due.due("99 for " + other, t.price(other, 99), true);
                }
            }
            Due.due("the price of " + texture + " at first", t.cost(), texture);
            Due.due("it has that", t.texture(0), texture);
            Due.due("0 for " + texture, t.price(texture, 0), true);
            Due.due("then it costs nothing", t.cost(), 0);
            for (int no : Outside.of(0, 99)) {
                Due.due("price " + no, t.price(texture, no), false);
            }
        }
    }

    private static void neighbours3AtMost() {
        Doc.says(TERMS, "NEIGHBOURS if FAR of them is 3 at most");
        for (int far = 0; far <= 6; far++) {
            Due.due("far " + far + " along", dots(8, 8, 8 + far, 8).cost(), far <= 3 ? 1 : 0);
            Due.due("far " + far + " down", dots(8, 8, 8, 8 + far).cost(), far <= 3 ? 1 : 0);
            Due.due("far " + far + " aslant", dots(8, 8, 8 - far, 8 + far).cost(), far <= 3 ? 1 : 0);
        }
    }

    private static void leastSumThenFirst() {
        Doc.says(TERMS, "the least sum of PRICES");
        // A row 0 - 1 - 2, each 3 from the next: the middle one pays.
        TouchSheet row = dots(0, 0, 3, 0, 6, 0);
        row.price(0, 98);
        row.price(1, 99);
        row.price(2, 99);
        row.price(3, 99);
        Due.due("98, 99 and 98", row.cost(), 295);
        Due.due("the middle one", row.texture(1), 1);
        Doc.says(TERMS, "of several the first by GROUNDS' TEXTURES (the lesser first)");
        row.price(0, 99);
        int[] alike = {0, 1, 0};
        for (int i = 0; i < 3; i++) {
            Due.due("prices alike, shape " + i, row.texture(i), alike[i]);
        }
        TouchSheet pair = dots(0, 0, 3, 0);
        pair.price(0, 5);
        pair.price(1, 5);
        pair.price(2, 0);
        pair.price(3, 9);
        Due.due("0 and 2, not 2 and 0", pair.texture(0), 0);
        Due.due("the other has 2", pair.texture(1), 2);
    }

    private static void whoHasNone() {
        Doc.says(TERMS, "(LINES and MARKS have none.)");
        TouchSheet t = line(5, 5, 9, 9);
        t.mark(5, 5, 1);
        Due.due("a line", t.texture(0), NONE);
        Due.due("a mark", t.texture(1), NONE);
        Doc.says(TERMS, "If there is no such way, none has one.");
        TouchSheet five = dots(5, 5, 5, 5, 5, 5, 5, 5, 20, 20, 5, 5);
        for (int i = 0; i < 6; i++) {
            Due.due("five beside each other, and one far off: shape " + i, five.texture(i), NONE);
        }
        Due.due("its cost", five.cost(), NONE);
        five.undo();
        Due.due("four of them", five.cost(), 6);
        Due.due("the one far off", five.texture(4), 0);
    }

    private static void printed() {
        rim();
        insideByTexture();
        withoutTexture();
    }

    /** One GROUND with that TEXTURE, for it is the cheapest. */
    private static TouchSheet woven(int texture, int x0, int y0, int x1, int y1) {
        TouchSheet t = new TouchSheet();
        t.ground(x0, y0, x1, y1, 1);
        for (int other = 0; other < 4; other++) {
            t.price(other, other == texture ? 0 : 9);
        }
        return t;
    }

    private static void rim() {
        Doc.says(TERMS, "of a GROUND those on its rim (x or y is an end)");
        for (int texture = 0; texture < 4; texture++) {
            Due.due("one pin", woven(texture, 7, 7, 7, 7).print(1), 1);
            Due.due("one row", woven(texture, 0, 7, 23, 7).print(1), 24);
            Due.due("one column", woven(texture, 7, 0, 7, 23).print(1), 24);
            Due.due("two rows", woven(texture, 0, 7, 23, 8).print(1), 48);
            Due.due("two columns", woven(texture, 7, 0, 8, 23).print(1), 48);
        }
        Due.due("the rim of all pins", woven(0, 0, 0, 23, 23).print(1), 92);
    }

    private static void insideByTexture() {
        Doc.says(TERMS,
            "and inside by its TEXTURE: 0 none; 1 where x + y is even; 2 where x is even; 3 where y is even.");
        // A ground of three by three has one pin inside; each texture, each way of even and odd.
        for (int texture = 0; texture < 4; texture++) {
            for (int x = 1; x < 23; x += 3) {
                for (int y = 1; y < 23; y += 3) {
                    int[] odd = {1, (x + y) % 2, x % 2, y % 2};
                    boolean up = odd[texture] == 0;
                    TouchSheet t = woven(texture, x - 1, y - 1, x + 1, y + 1);
                    Due.due("texture " + texture + " around " + x + ", " + y, t.print(1), up ? 9 : 8);
                    Due.due("its inside", t.up(x, y), up ? 1 : 0);
                }
            }
        }
        int[] inside = {0, 242, 242, 242};
        for (int texture = 0; texture < 4; texture++) {
            Due.due("all pins by " + texture, woven(texture, 0, 0, 23, 23).print(1), 92 + inside[texture]);
        }
    }

    private static void withoutTexture() {
        Doc.says(TERMS, "(Without a TEXTURE: all.)");
        TouchSheet t = new TouchSheet();
        for (int i = 0; i < 5; i++) {
            t.ground(0, 0, 23, 23, 1);
        }
        Due.due("one of five", t.print(1), 576);
        Due.due("none has one", t.texture(0), NONE);
        t.undo();
        Due.due("one of four has", t.print(1), 92);
    }

    private static void finger() {
        eightBeside();
        byFirstPin();
        ends();
    }

    private static void eightBeside() {
        Doc.says(TERMS, "hang together by steps to any of the eight beside");
        int[][] beside = {{-1, -1}, {0, -1}, {1, -1}, {-1, 0}, {1, 0}, {-1, 1}, {0, 1}, {1, 1}};
        for (int[] b : beside) {
            TouchSheet t = dots(9, 9, 9 + b[0], 9 + b[1], 9 + 3 * b[0], 9 + 3 * b[1]);
            Due.due("three pins", t.print(7), 3);
            Due.due("one beside, one with a pin between", t.things(), 2);
        }
        // The end of a row and the beginning of the next, and of the one above and below, are not beside.
        for (int dy = -1; dy <= 1; dy++) {
            TouchSheet t = dots(23, 9, 0, 9 + dy);
            t.print(3);
            Due.due("no row goes on in another", t.things(), 2);
            TouchSheet down = dots(9, 23, 9 + dy, 0);
            down.print(3);
            Due.due("no column goes on in another", down.things(), 2);
        }
    }

    private static void byFirstPin() {
        Doc.says(TERMS, "numbered by their first PIN (row by row: the least y, then the least x)");
        TouchSheet t = dots(0, 9, 23, 0, 20, 0, 23, 23);
        t.print(15);
        int[] xs = {20, 23, 0, 23};
        for (int i = 0; i < 4; i++) {
            Due.due("x of thing " + i, t.thing(i, 1), xs[i]);
        }
        // The first pin counts, not the box: the line's box begins at 0, its first pin is at 10.
        TouchSheet box = line(10, 2, 0, 12);
        addLine(box, 5, 2, 5, 3);
        box.print(3);
        Due.due("the lesser x in the first row", box.thing(0, 1), 5);
        Due.due("the line is behind it", box.thing(1, 1), 0);
    }

    private static void ends() {
        Doc.says(TERMS, "PINS with just one up beside it (of the eight)");
        Due.due("one pin has none beside it", endsOf(line(0, 0)), 0);
        Due.due("two pins", endsOf(line(0, 0, 1, 1)), 2);
        Due.due("three in a row", endsOf(line(0, 0, 2, 0)), 2);
        Due.due("three around a corner", endsOf(line(0, 0, 1, 0, 1, 1)), 0);
        Due.due("a mark: each has three or four beside it", endsOf(new int[] {9, 9}), 0);
        Due.due("a mark in a corner", endsOf(new int[] {23, 23}), 0);
        Due.due("from side to side", endsOf(line(0, 23, 23, 23)), 2);
        Due.due("around all sides", endsOf(line(0, 0, 23, 0, 23, 23, 0, 23, 0, 2)), 2);
        Due.due("closed around all sides", endsOf(line(0, 0, 23, 0, 23, 23, 0, 23, 0, 0)), 0);
    }

    private static int endsOf(int[] mark) {
        TouchSheet t = new TouchSheet();
        t.mark(mark[0], mark[1], 1);
        return endsOf(t);
    }

    private static int endsOf(TouchSheet t) {
        t.print(1);
        return t.thing(0, 5);
    }
}
