/** Promises 15 and 16: LINES made SIMPLER. */
public final class SimplerTest {
    private static final int NONE = TouchSheet.NONE;

    public static void main(String[] args) {
        onStraight();
        justAtTheBound();
        nearestPointOfTheStep();
        firstOfSeveral();
        aHook();
        fewestIsNotTheFarthestStep();
        wrongInputs();
        simplify();
        simplifyChangesWhatLiesNear();
        Due.end();
    }

    private static TouchSheet line(int... places) {
        TouchSheet t = new TouchSheet();
        for (int k = 0; k + 1 < places.length; k += 2) {
            t.corner(places[k], places[k + 1]);
        }
        t.line(1);
        return t;
    }

    private static void kept(String what, TouchSheet t, int bound, int set) {
        Due.due("15 " + what + ", which", t.simple(0, bound, 1), set);
        Due.due("15 " + what + ", how many", t.simple(0, bound, 0), Integer.bitCount(set));
    }

    private static void onStraight() {
        kept("straight", line(0, 0, 4, 2, 8, 4, 12, 6, 20, 10), 0, 0b10001);
        kept("one corner", line(3, 3), 0, 1);
        kept("one corner, any bound", line(3, 3), 30, 1);
        kept("two the same", line(3, 3, 3, 3), 30, 0b11);
        kept("eight the same", line(3, 3, 3, 3, 3, 3, 3, 3, 3, 3, 3, 3, 3, 3, 3, 3), 0, 0b10000001);
        kept("any bound", line(0, 0, 23, 0, 23, 23, 0, 23, 12, 12), 30, 0b10001);
    }

    private static void justAtTheBound() {
        // 3, 4 from the step's end is 5 off: 25 is at most 25.
        kept("5 off by 5", line(0, 0, 3, 4, 0, 0), 5, 0b101);
        kept("5 off by 4", line(0, 0, 3, 4, 0, 0), 4, 0b111);
        // The step 0, 0 to 4, 3 has length 5; 1, 7 lies (4 * 7 - 3 * 1) / 5 = 5 off.
        kept("5 aside by 5", line(0, 0, 1, 7, 8, 6), 5, 0b101);
        kept("5 aside by 4", line(0, 0, 1, 7, 8, 6), 4, 0b111);
        // 2, 4 lies (9 * 4 - 3 * 2) / sqrt 90 off, that is sqrt 10.
        kept("above 3", line(0, 0, 2, 4, 9, 3), 3, 0b111);
        kept("at most 4", line(0, 0, 2, 4, 9, 3), 4, 0b101);
    }

    private static void nearestPointOfTheStep() {
        // In one row, but behind the step's end or ahead of its beginning.
        kept("behind the end", line(0, 0, 10, 0, 5, 0), 4, 0b111);
        kept("behind the end by 5", line(0, 0, 10, 0, 5, 0), 5, 0b101);
        kept("ahead", line(5, 0, 0, 0, 10, 0), 4, 0b111);
        kept("ahead by 5", line(5, 0, 0, 0, 10, 0), 5, 0b101);
    }

    private static void firstOfSeveral() {
        kept("zigzag", line(0, 20, 4, 23, 8, 20, 12, 23, 16, 20), 2, 0b10011);
        // Of a square with a corner told twice either could be kept.
        kept("twice", line(0, 0, 10, 0, 10, 0, 10, 10), 0, 0b1011);
        kept("thrice", line(0, 0, 10, 0, 10, 0, 10, 0, 10, 10), 0, 0b10011);
    }

    private static void aHook() {
        // The squares' sum decides: the corner at 12, 0 lies 12 / sqrt 2, some 8.5, off the whole step.
        TouchSheet t = line(0, 0, 6, 0, 12, 0, 12, 6, 12, 12);
        kept("a hook", t, 0, 0b10101);
        kept("a hook by 8", t, 8, 0b10011);
        kept("a hook by 9", t, 9, 0b10001);
    }

    private static void fewestIsNotTheFarthestStep() {
        // The farthest step from the first corner that can be made leads to corner 3, and on to four in all.
        kept("farthest step", line(9, 1, 5, 7, 3, 7, 6, 8, 11, 3), 2, 0b10011);
    }

    private static void wrongInputs() {
        TouchSheet t = line(0, 0, 3, 1, 6, 0);
        t.ground(10, 10, 12, 12, 1);
        t.mark(20, 20, 1);
        int[] bounds = {-1, 31, Integer.MIN_VALUE, Integer.MAX_VALUE};
        for (int bound : bounds) {
            Due.due("15 bound " + bound, t.simple(0, bound, 0), NONE);
            Due.due("16 bound " + bound, t.simplify(0, bound), NONE);
        }
        int[] shapes = {-1, 1, 2, 3, Integer.MAX_VALUE};
        for (int i : shapes) {
            Due.due("15 shape " + i, t.simple(i, 1, 0), NONE);
            Due.due("16 shape " + i, t.simplify(i, 1), NONE);
        }
        int[] whats = {-1, 2, Integer.MIN_VALUE, Integer.MAX_VALUE};
        for (int what : whats) {
            Due.due("15 what " + what, t.simple(0, 1, what), NONE);
        }
        Due.due("16 nothing is done", t.of(0, 3), 3);
        Due.due("15 changes nothing", t.simple(0, 30, 0) + t.of(0, 3), 5);
    }

    private static void simplify() {
        TouchSheet t = line(0, 20, 4, 23, 8, 20, 12, 23, 16, 20);
        Due.due("16 simplify", t.simplify(0, 2), 3);
        int[] want = {0, 20, 4, 23, 16, 20};
        for (int k = 0; k < want.length; k++) {
            Due.due("16 of(0, " + (10 + k) + ")", t.of(0, 10 + k), want[k]);
        }
        Due.due("16 no more corners", t.of(0, 16), NONE);
        Due.due("16 its corners", t.of(0, 3), 3);
        Due.due("16 its pins", t.pin(0, 12, 23), 0);
        Due.due("16 its pins", t.pin(0, 12, 21), 1);
        Due.due("16 its worth stays", t.of(0, 1), 1);
        Due.due("16 its own corners count now", t.simplify(0, 3), 2);
        Due.due("16 of one corner", line(4, 4).simplify(0, 0), 1);
    }

    private static void simplifyChangesWhatLiesNear() {
        TouchSheet t = line(0, 0, 10, 6, 20, 0);
        t.mark(10, 8, 3);
        t.mark(10, 0, 1);
        t.meet(0, 2, true);
        Due.due("16 far ahead", t.far(0, 1), 1);
        Due.due("16 kept ahead", t.kept(), 6);
        Due.due("16 sheets ahead", t.sheets(), 2);
        t.simplify(0, 6);
        Due.due("16 far then", t.far(1, 0), 7);
        Due.due("16 what meets it stays", t.meet(0, 2, true), false);
        Due.due("16 kept then", t.kept(), 7);
        Due.due("16 sheets then", t.sheets(), 1);
    }
}
