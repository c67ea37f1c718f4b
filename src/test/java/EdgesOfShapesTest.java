/** Promises 1 to 8 and 11 to 14: a test for each of their words that names an edge. */
public final class EdgesOfShapesTest {
    private static final int NONE = TouchSheet.NONE;
    private static final int[] PROMISES = {1, 2, 3, 4, 5, 6, 7, 8, 11, 12, 13, 14};

    public static void main(String[] args) {
        newObject();
        corner();
        line();
        ground();
        mark();
        undo();
        gap();
        meet();
        look();
        of();
        pin();
        far();
        for (int promise : PROMISES) {
            Doc.hasNoEdgeLeft("Promise " + promise);
        }
        Due.end();
    }

    private static int bit(boolean is) {
        return is ? 1 : 0;
    }

    private static void newObject() {
        Doc.says("Promise 1", "No SHAPES.");
        int[] none = {Integer.MIN_VALUE, -1, 0, 1, 11, Integer.MAX_VALUE};
        Facts.refused("look(0)", Start.NEW, 0, t -> t.look(0));
        Facts.refused("look(1)", Start.NEW, 0, t -> t.look(1));
        for (int i : none) {
            Facts.refused("of(" + i + ", 0)", Start.NEW, NONE, t -> t.of(i, 0));
            Facts.refused("pin(" + i + ", 0, 0)", Start.NEW, NONE, t -> t.pin(i, 0, 0));
            Facts.refused("far(" + i + ", " + i + ")", Start.NEW, NONE, t -> t.far(i, i));
            Facts.refused("meet(" + i + ", 0, true)", Start.NEW, 0, t -> bit(t.meet(i, 0, true)));
        }
        TouchSheet other = Start.FULL.make();
        Due.due("another object's shapes are not the new one's", new TouchSheet().look(0), 0);
        Due.due("nor are the new one's the other's", other.look(0), 12);
    }

    private static void corner() {
        Doc.says("Promise 2", "NONE, and nothing is done, if it is no PIN");
        for (int no : Outside.of(0, 23)) {
            Facts.refused("2 corner(" + no + ", 0)", Start.NEW, NONE, t -> t.corner(no, 0));
            Facts.refused("2 corner(23, " + no + ")", Start.SOME, NONE, t -> t.corner(23, no));
        }
        Doc.says("Promise 2", "or there are 8.");
        Facts.refused("2 a ninth corner", Start.FULL, NONE, t -> t.corner(1, 2));
        TouchSheet t = new TouchSheet();
        for (int k = 1; k <= 8; k++) {
            Due.due("2 corner " + k + " on one pin", t.corner(23, 0), k);
        }
        Due.due("2 a ninth on the same pin", t.corner(23, 0), NONE);
        Due.due("2 the line of them", t.line(1), 0);
        Due.due("2 then one more", t.corner(23, 0), 1);
    }

    private static void line() {
        Doc.says("Promise 3", "(none waits then)");
        TouchSheet t = Start.SOME.make();
        Due.due("3 line of three", t.line(1), 5);
        Due.due("3 none waits then", t.look(1), 0);
        Due.due("3 nor has the next more than its own", t.corner(0, 0) + t.line(1) + t.of(6, 3), 1 + 6 + 1);
        Doc.says("Promise 3", "NONE, and nothing is done: none waits");
        for (int worth = 0; worth <= 10; worth++) {
            int told = worth;
            Facts.refused("3 line(" + worth + ")", Start.NEW, NONE, s -> s.line(told));
        }
        Doc.says("Promise 3", "no such WORTH");
        for (int no : Outside.of(1, 9)) {
            Facts.refused("3 line(" + no + ")", Start.SOME, NONE, s -> s.line(no));
        }
        Doc.says("Promise 3", "or there are 12 SHAPES.");
        Facts.refused("3 a thirteenth", Start.FULL, NONE, s -> s.line(1));
        TouchSheet full = Start.FULL.make();
        full.undo();
        Due.due("3 a twelfth again", full.line(9), 11);
        Due.due("3 of the eight that waited", full.of(11, 3), 8);
    }

    private static void ground() {
        Doc.says("Promise 4", "NONE, and nothing is done: something can't be (x0 above x1, ..)");
        for (int no : Outside.of(0, 23)) {
            Facts.refused("4 x0 " + no, Start.NEW, NONE, t -> t.ground(no, 0, 23, 23, 1));
            Facts.refused("4 y0 " + no, Start.SOME, NONE, t -> t.ground(0, no, 23, 23, 1));
            Facts.refused("4 x1 " + no, Start.SOME, NONE, t -> t.ground(0, 0, no, 23, 1));
            Facts.refused("4 y1 " + no, Start.NEW, NONE, t -> t.ground(0, 0, 23, no, 1));
        }
        for (int no : Outside.of(1, 9)) {
            Facts.refused("4 worth " + no, Start.SOME, NONE, t -> t.ground(0, 0, 23, 23, no));
        }
        Facts.refused("4 x0 above x1", Start.SOME, NONE, t -> t.ground(5, 5, 4, 5, 1));
        Facts.refused("4 y0 above y1", Start.SOME, NONE, t -> t.ground(5, 5, 5, 4, 1));
        Facts.refused("4 both above", Start.SOME, NONE, t -> t.ground(23, 23, 0, 0, 1));
        Due.due("4 x0 is x1, y0 is y1", Start.SOME.make().ground(5, 5, 5, 5, 1), 5);
        Doc.says("Promise 4", "or there are 12.");
        Facts.refused("4 a thirteenth", Start.FULL, NONE, t -> t.ground(0, 0, 23, 23, 9));
    }

    private static void mark() {
        Doc.says("Promise 5", "A MARK: likewise.");
        for (int no : Outside.of(0, 23)) {
            Facts.refused("5 x " + no, Start.NEW, NONE, t -> t.mark(no, 23, 9));
            Facts.refused("5 y " + no, Start.SOME, NONE, t -> t.mark(0, no, 1));
        }
        for (int no : Outside.of(1, 9)) {
            Facts.refused("5 worth " + no, Start.SOME, NONE, t -> t.mark(0, 0, no));
        }
        Facts.refused("5 a thirteenth", Start.FULL, NONE, t -> t.mark(0, 0, 1));
        TouchSheet t = Start.FULL.make();
        t.undo();
        Due.due("5 a twelfth again", t.mark(0, 0, 1), 11);
    }

    private static void undo() {
        Doc.says("Promise 6", "The last SHAPE goes");
        TouchSheet t = Start.FULL.make();
        for (int left = 11; left >= 0; left--) {
            Due.due("6 undo", t.undo(), true);
            Due.due("6 how many are left", t.look(0), left);
            Due.due("6 the last has gone", t.of(left, 0), NONE);
            Due.due("6 the one ahead of it has not", t.of(left - 1, 0), left == 0 ? NONE : (left - 1) % 3);
        }
        Doc.says("Promise 6", "false if there is none.");
        Due.due("6 undo of none", t.undo(), false);
        Due.due("6 undo of none again", t.undo(), false);
        Due.due("6 the first comes again", t.mark(1, 1, 1), 0);
        Facts.refused("6 undo of a new one", Start.NEW, 0, s -> bit(s.undo()));
        whatMeetsGoesToo();
    }

    private static void whatMeetsGoesToo() {
        Doc.says("Promise 6", "(What is told to MEET with it, too.)");
        TouchSheet t = new TouchSheet();
        for (int i = 0; i < 12; i++) {
            t.mark(9, 9, 1);
        }
        for (int i = 0; i < 11; i++) {
            t.meet(11, i, true);
        }
        t.meet(3, 4, true);
        t.undo();
        t.mark(9, 9, 1);
        for (int i = 0; i < 11; i++) {
            Due.due("6 the new last one does not meet " + i, t.meet(i, 11, false), false);
        }
        Due.due("6 others meet still", t.meet(3, 4, true), false);
        Due.due("6 so two can be kept", t.kept(), 0b11000);
    }

    private static void gap() {
        Doc.says("Promise 7", "false, and nothing is done, if it can't be.");
        for (int no : Outside.of(1, 6)) {
            Facts.refused("7 gap(" + no + ")", Start.NEW, 0, t -> bit(t.gap(no)));
            Facts.refused("7 gap(" + no + ")", Start.FULL, 0, t -> bit(t.gap(no)));
        }
        TouchSheet t = new TouchSheet();
        Due.due("7 the least", t.gap(1), true);
        Due.due("7 the greatest", t.gap(6), true);
        Due.due("7 it is that", t.look(2), 6);
        Due.due("7 the same again", t.gap(6), true);
    }

    private static void meet() {
        Doc.says("Promise 8", "false, and nothing is done: none such");
        for (int no : Outside.of(0, 4)) {
            Facts.refused("8 meet(" + no + ", 0, true)", Start.SOME, 0, t -> bit(t.meet(no, 0, true)));
            Facts.refused("8 meet(4, " + no + ", true)", Start.SOME, 0, t -> bit(t.meet(4, no, true)));
            Facts.refused("8 meet(" + no + ", 3, false)", Start.SOME, 0, t -> bit(t.meet(no, 3, false)));
            Facts.refused("8 meet(2, " + no + ", false)", Start.SOME, 0, t -> bit(t.meet(2, no, false)));
        }
        Doc.says("Promise 8", "the same");
        for (int i = 0; i < 5; i++) {
            int same = i;
            Facts.refused("8 the same", Start.SOME, 0, t -> bit(t.meet(same, same, true)));
            Facts.refused("8 not the same", Start.SOME, 0, t -> bit(t.meet(same, same, false)));
        }
        Doc.says("Promise 8", "or it was so.");
        Facts.refused("8 it was so", Start.SOME, 0, t -> bit(t.meet(2, 3, true)));
        Facts.refused("8 it was so the other way", Start.SOME, 0, t -> bit(t.meet(3, 2, true)));
        Facts.refused("8 it was not so", Start.SOME, 0, t -> bit(t.meet(0, 1, false)));
        TouchSheet t = Start.FULL.make();
        Due.due("8 the first and the last", t.meet(0, 11, true), true);
        Due.due("8 told to meet once, no more at once", t.meet(11, 0, false), true);
        Due.due("8 it was not so", t.meet(0, 11, false), false);
    }

    private static void look() {
        Doc.says("Promise 11", "NONE for another what.");
        for (int no : Outside.of(0, 2)) {
            Facts.refused("11 look(" + no + ")", Start.FULL, NONE, t -> t.look(no));
        }
        TouchSheet t = Start.FULL.make();
        Due.due("11 the most shapes", t.look(0), 12);
        Due.due("11 the most corners", t.look(1), 8);
    }

    private static void of() {
        ofOtherKinds();
        Doc.says("Promise 12", "NONE if there is none such");
        for (int no : Outside.of(0, 4)) {
            for (int what = 0; what <= 11; what++) {
                Due.due("12 of(" + no + ", " + what + ")", Start.SOME.make().of(no, what), NONE);
            }
        }
        cornersThatAreNot();
        Doc.says("Promise 12", "or another what.");
        for (int no : Outside.of(0, 25)) {
            for (int i = 0; i < 5; i++) {
                Due.due("12 of(" + i + ", " + no + ")", Start.SOME.make().of(i, no), NONE);
            }
        }
        for (int what = 4; what < 10; what++) {
            int told = what;
            Facts.refused("12 of(0, " + what + ")", Start.SOME, NONE, t -> t.of(0, told));
        }
    }

    private static void ofOtherKinds() {
        Doc.says("Promise 12", "3 CORNERS (of a LINE; 0)");
        TouchSheet t = Start.SOME.make();
        int[] corners = {5, 0, 0, 0, 1};
        for (int i = 0; i < 5; i++) {
            Due.due("12 of(" + i + ", 3)", t.of(i, 3), corners[i]);
        }
        Doc.says("Promise 12", "of a GROUND x0, y0, x1, y1 (10 .. 13)");
        int[] ends = {2, 6, 6, 10, NONE, NONE};
        for (int k = 0; k < ends.length; k++) {
            Due.due("12 of a ground " + (10 + k), t.of(1, 10 + k), ends[k]);
        }
        int[] middle = {14, 8, NONE, NONE};
        for (int k = 0; k < middle.length; k++) {
            Due.due("12 of a mark " + (10 + k), t.of(3, 10 + k), middle[k]);
        }
    }

    private static void cornersThatAreNot() {
        TouchSheet t = new TouchSheet();
        for (int many = 1; many <= 8; many++) {
            for (int k = 0; k < many; k++) {
                t.corner(23 - k, k);
            }
            int number = t.line(1);
            for (int k = 0; k < 10; k++) {
                Due.due("12 x of corner " + k + " of " + many, t.of(number, 10 + 2 * k), k < many ? 23 - k : NONE);
                Due.due("12 y of corner " + k + " of " + many, t.of(number, 11 + 2 * k), k < many ? k : NONE);
            }
        }
        t.simplify(7, 1);
        Due.due("12 the corners of before are no more", t.of(7, 14), NONE);
    }

    private static void pin() {
        Doc.says("Promise 13", "NONE if there are none such.");
        for (int no : Outside.of(0, 4)) {
            Facts.refused("13 pin(" + no + ", 0, 0)", Start.SOME, NONE, t -> t.pin(no, 0, 0));
        }
        for (int no : Outside.of(0, 23)) {
            Facts.refused("13 pin(0, " + no + ", 0)", Start.SOME, NONE, t -> t.pin(0, no, 0));
            Facts.refused("13 pin(0, 0, " + no + ")", Start.SOME, NONE, t -> t.pin(0, 0, no));
        }
        TouchSheet t = Start.SOME.make();
        t.undo();
        Due.due("13 of one that has gone", t.pin(4, 20, 20), NONE);
    }

    private static void far() {
        Doc.says("Promise 14", "NONE if there are none such.");
        for (int no : Outside.of(0, 4)) {
            Facts.refused("14 far(" + no + ", 0)", Start.SOME, NONE, t -> t.far(no, 0));
            Facts.refused("14 far(4, " + no + ")", Start.SOME, NONE, t -> t.far(4, no));
            Facts.refused("14 far(" + no + ", " + no + ")", Start.SOME, NONE, t -> t.far(no, no));
        }
        TouchSheet t = Start.SOME.make();
        t.undo();
        Due.due("14 of one that has gone", t.far(4, 0), NONE);
        Due.due("14 of one that has gone and itself", t.far(4, 4), NONE);
        t.mark(0, 0, 1);
        Due.due("14 of the one in its place", t.far(4, 0), 0);
    }
}
