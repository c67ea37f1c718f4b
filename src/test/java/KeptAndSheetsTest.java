/** Promises 17 to 20: what is KEPT, what is lost, and the SHEETS. */
public final class KeptAndSheetsTest {
    private static final int NONE = TouchSheet.NONE;

    public static void main(String[] args) {
        greatestWorth();
        thenMostShapes();
        thenLeastNumber();
        gapAndMeet();
        sheetsOfAChain();
        leastSheetThatCanBeStill();
        fewestBeforeLeast();
        cycleOfFive();
        allNear();
        wrongInputs();
        answersFollowEachChange();
        Due.end();
    }

    /** Grounds of one pin: near by gap 2 are those in touch with each other. */
    private static TouchSheet dots(int... places) {
        TouchSheet t = new TouchSheet();
        for (int k = 0; k + 2 < places.length; k += 3) {
            t.ground(places[k], places[k + 1], places[k], places[k + 1], places[k + 2]);
        }
        return t;
    }

    private static void kept(String what, TouchSheet t, int set, int loss) {
        Due.due("17 " + what, t.kept(), set);
        Due.due("18 " + what, t.loss(), loss);
    }

    private static void sheets(String what, TouchSheet t, int... want) {
        int most = 0;
        for (int i = 0; i < want.length; i++) {
            Due.due("20 " + what + ", shape " + i, t.sheet(i), want[i]);
            most = Math.max(most, want[i] + 1);
        }
        Due.due("19 " + what, t.sheets(), most);
    }

    private static void greatestWorth() {
        kept("the middle outweighs", dots(0, 0, 2, 1, 0, 5, 2, 0, 2), 0b010, 4);
        kept("the ends outweigh", dots(0, 0, 3, 1, 0, 5, 2, 0, 3), 0b101, 5);
        kept("far ones are all kept", dots(0, 0, 3, 5, 0, 5, 10, 0, 3), 0b111, 0);
        kept("one", dots(0, 0, 9), 1, 0);
    }

    private static void thenMostShapes() {
        kept("two of 2 instead of one of 4", dots(1, 0, 4, 0, 0, 2, 2, 0, 2), 0b110, 4);
        kept("worth goes ahead of how many", dots(1, 0, 5, 0, 0, 2, 2, 0, 2), 0b001, 4);
    }

    private static void thenLeastNumber() {
        kept("two alike", dots(0, 0, 3, 1, 0, 3), 0b01, 3);
        kept("a chain of four", dots(0, 0, 1, 1, 0, 1, 2, 0, 1, 3, 0, 1), 0b0101, 2);
        kept("two pairs", dots(0, 0, 1, 1, 0, 1, 5, 5, 1, 6, 5, 1), 0b0101, 2);
        // In a ring of four 0 and 3, or 1 and 2: of 1001 and 0110 the latter is less, though without the first.
        TouchSheet ring = dots(2, 0, 1, 0, 2, 1, 4, 2, 1, 2, 4, 1);
        ring.gap(3);
        kept("the number decides, not the first", ring, 0b0110, 2);
    }

    private static void gapAndMeet() {
        TouchSheet t = dots(0, 0, 1, 3, 0, 1, 6, 0, 1);
        kept("gap 2", t, 0b111, 0);
        t.gap(3);
        kept("gap 3: far 3 is not below", t, 0b111, 0);
        t.gap(4);
        kept("gap 4", t, 0b101, 1);
        t.meet(0, 1, true);
        kept("0 and 1 meet", t, 0b011, 1);
        t.meet(1, 2, true);
        kept("1 and 2 meet as well", t, 0b111, 0);
        t.gap(6);
        kept("gap 6: far 6 is not below", t, 0b111, 0);
        TouchSheet same = dots(4, 4, 1, 4, 4, 1);
        same.gap(1);
        kept("gap 1: one pin in common", same, 0b01, 1);
        sheets("gap 1: one pin in common", same, 0, 1);
        TouchSheet touching = dots(4, 4, 1, 5, 5, 1);
        touching.gap(1);
        kept("gap 1: side by side", touching, 0b11, 0);
    }

    private static void sheetsOfAChain() {
        sheets("a chain", dots(0, 0, 1, 1, 0, 1, 2, 0, 1, 3, 0, 1), 0, 1, 0, 1);
        sheets("one", dots(0, 0, 1), 0);
        sheets("none near", dots(0, 0, 1, 4, 0, 1, 8, 0, 1), 0, 0, 0);
    }

    private static void leastSheetThatCanBeStill() {
        // A chain 0 - 2 - 3 - 1: with two sheets 0 and 1 can't both lie on the first.
        sheets("ends of a chain first", dots(0, 0, 1, 3, 0, 1, 1, 0, 1, 2, 0, 1), 0, 1, 1, 0);
        // A chain 0 - 2 - 1: both ends on the first.
        sheets("ends of a shorter one", dots(0, 0, 1, 2, 0, 1, 1, 0, 1), 0, 0, 1);
    }

    private static void fewestBeforeLeast() {
        // Two chains of four whose ends come first: taking the least at once would need a third sheet.
        sheets("two chains", dots(0, 0, 1, 3, 0, 1, 0, 10, 1, 3, 10, 1, 1, 0, 1, 2, 0, 1, 1, 10, 1, 2, 10, 1),
            0, 1, 0, 1, 1, 0, 1, 0);
    }

    private static void cycleOfFive() {
        // Five of which any is near two: three sheets, though no three are near each other.
        TouchSheet t = dots(2, 0, 1, 4, 2, 1, 3, 4, 1, 1, 4, 1, 0, 2, 1);
        t.gap(3);
        sheets("a ring of five", t, 0, 1, 0, 1, 2);
        kept("a ring of five", t, 0b00101, 3);
    }

    private static void allNear() {
        TouchSheet t = new TouchSheet();
        for (int i = 0; i < 12; i++) {
            t.mark(12, 12, 9 - i / 4);
            Due.due("20 the last of " + (i + 1), t.sheet(i), i);
            Due.due("19 all near", t.sheets(), i + 1);
        }
        kept("all near", t, 1, 8 * 12 - 9);
        for (int i = 0; i < 12; i++) {
            for (int j = 0; j < i; j++) {
                t.meet(i, j, true);
            }
        }
        kept("all meet", t, 4095, 0);
        sheets("all meet", t, 0, 0, 0, 0, 0, 0, 0, 0, 0, 0, 0, 0);
    }

    private static void wrongInputs() {
        TouchSheet t = dots(0, 0, 1, 1, 0, 1);
        int[] none = {-1, 2, 12, 32, Integer.MIN_VALUE, Integer.MAX_VALUE};
        for (int i : none) {
            Due.due("20 sheet(" + i + ")", t.sheet(i), NONE);
        }
    }

    private static void answersFollowEachChange() {
        TouchSheet t = dots(0, 0, 1, 1, 0, 1);
        kept("two", t, 0b01, 1);
        sheets("two", t, 0, 1);
        t.mark(20, 20, 5);
        kept("a third", t, 0b101, 1);
        sheets("a third", t, 0, 1, 0);
        t.undo();
        kept("undone", t, 0b01, 1);
        sheets("undone", t, 0, 1);
        Due.due("20 undone", t.sheet(2), NONE);
        t.gap(1);
        kept("another gap", t, 0b11, 0);
        sheets("another gap", t, 0, 0);
        t.gap(2);
        t.meet(0, 1, true);
        sheets("they meet", t, 0, 0);
        t.corner(1, 1);
        t.line(9);
        kept("a line", t, 0b100, 2);
        sheets("a line", t, 0, 0, 1);
        while (t.undo()) {
            Due.due("19 fewer and fewer", t.sheets(), t.look(0) > 0 ? 1 : 0);
        }
        kept("none left", t, 0, 0);
    }
}
