/** Promises 9, 10 and 15 to 26: a test for each of their words that names an edge. */
public final class EdgesOfAnswersTest {
    private static final int NONE = TouchSheet.NONE;
    private static final int[] PROMISES = {9, 10, 15, 16, 17, 18, 19, 20, 21, 22, 23, 24, 25, 26};

    public static void main(String[] args) {
        apart();
        price();
        simple();
        simplify();
        keptAndLoss();
        sheetsAndSheet();
        texture();
        cost();
        print();
        up();
        things();
        thing();
        for (int promise : PROMISES) {
            Doc.hasNoEdgeLeft("Promise " + promise);
        }
        Due.end();
    }

    private static int bit(boolean is) {
        return is ? 1 : 0;
    }

    /** Twelve GROUNDS of one PIN, so far from each other that none minds another. */
    private static TouchSheet twelveApart() {
        TouchSheet t = new TouchSheet();
        for (int i = 0; i < 12; i++) {
            t.ground(i % 4 * 7, i / 4 * 9, i % 4 * 7, i / 4 * 9, 9);
        }
        return t;
    }

    private static TouchSheet marksOnOnePin(int many) {
        TouchSheet t = new TouchSheet();
        for (int i = 0; i < many; i++) {
            t.mark(9, 9, 9);
        }
        return t;
    }

    private static TouchSheet groundsOnOnePlace(int many) {
        TouchSheet t = new TouchSheet();
        for (int i = 0; i < many; i++) {
            t.ground(5, 5, 8, 8, 1);
        }
        return t;
    }

    private static void apart() {
        Doc.says("Promise 9", "false, and nothing is done: none such");
        for (int no : Outside.of(0, 3)) {
            Facts.refused("9 apart(" + no + ", 0, false)", Start.SOME, 0, t -> bit(t.apart(no, 0, false)));
            Facts.refused("9 apart(3, " + no + ", false)", Start.SOME, 0, t -> bit(t.apart(3, no, false)));
            Facts.refused("9 apart(" + no + ", 1, true)", Start.SOME, 0, t -> bit(t.apart(no, 1, true)));
        }
        Doc.says("Promise 9", "the same");
        for (int i = 0; i < 4; i++) {
            int same = i;
            Facts.refused("9 the same are apart", Start.SOME, 0, t -> bit(t.apart(same, same, true)));
            Facts.refused("9 the same are not", Start.SOME, 0, t -> bit(t.apart(same, same, false)));
        }
        Doc.says("Promise 9", "or it was so.");
        Facts.refused("9 it was so", Start.SOME, 0, t -> bit(t.apart(0, 1, false)));
        Facts.refused("9 it was so the other way", Start.SOME, 0, t -> bit(t.apart(1, 0, false)));
        Facts.refused("9 it was so at first", Start.SOME, 0, t -> bit(t.apart(3, 0, true)));
        TouchSheet t = new TouchSheet();
        Due.due("9 no more", t.apart(3, 0, false), true);
        Due.due("9 again", t.apart(0, 3, true), true);
        Due.due("9 it is so", t.apart(3, 0, true), false);
    }

    private static void price() {
        Doc.says("Promise 10", "false, and nothing is done, if one can't be.");
        for (int no : Outside.of(0, 3)) {
            Facts.refused("10 price(" + no + ", 0)", Start.SOME, 0, t -> bit(t.price(no, 0)));
        }
        for (int no : Outside.of(0, 99)) {
            Facts.refused("10 price(0, " + no + ")", Start.SOME, 0, t -> bit(t.price(0, no)));
            Facts.refused("10 price(3, " + no + ")", Start.FULL, 0, t -> bit(t.price(3, no)));
        }
        TouchSheet t = new TouchSheet();
        for (int texture = 0; texture < 4; texture++) {
            Due.due("10 the greatest", t.price(texture, 99), true);
            Due.due("10 the same again", t.price(texture, 99), true);
            Due.due("10 the least", t.price(texture, 0), true);
        }
    }

    private static void simple() {
        Doc.says("Promise 15", "NONE if it is no LINE");
        for (int no : Outside.of(0, 4)) {
            Facts.refused("15 none such: " + no, Start.SOME, NONE, t -> t.simple(no, 1, 0));
        }
        int[] others = {1, 2, 3};
        for (int i : others) {
            Facts.refused("15 a ground or a mark", Start.SOME, NONE, t -> t.simple(i, 1, 0));
            Facts.refused("15 a ground or a mark", Start.SOME, NONE, t -> t.simple(i, 1, 1));
        }
        Facts.refused("15 of none", Start.NEW, NONE, t -> t.simple(0, 0, 0));
        Doc.says("Promise 15", "D can't be");
        for (int no : Outside.of(0, 30)) {
            Facts.refused("15 D " + no, Start.SOME, NONE, t -> t.simple(0, no, 0));
            Facts.refused("15 D " + no + " of one corner", Start.SOME, NONE, t -> t.simple(4, no, 1));
        }
        Doc.says("Promise 15", "or another what.");
        for (int no : Outside.of(0, 1)) {
            Facts.refused("15 what " + no, Start.SOME, NONE, t -> t.simple(0, 1, no));
        }
        Facts.refused("15 by the least D, nothing is done", Start.SOME, 0b11111, t -> t.simple(0, 0, 1));
        Facts.refused("15 by the greatest D, nothing is done", Start.SOME, 2, t -> t.simple(0, 30, 0));
        Facts.refused("15 of one corner", Start.SOME, 1, t -> t.simple(4, 0, 0));
    }

    private static void simplify() {
        Doc.says("Promise 16", "NONE likewise.");
        for (int no : Outside.of(0, 4)) {
            Facts.refused("16 none such: " + no, Start.SOME, NONE, t -> t.simplify(no, 1));
        }
        for (int no : Outside.of(0, 30)) {
            Facts.refused("16 D " + no, Start.SOME, NONE, t -> t.simplify(0, no));
        }
        Facts.refused("16 a ground", Start.SOME, NONE, t -> t.simplify(1, 30));
        Facts.refused("16 a mark", Start.SOME, NONE, t -> t.simplify(3, 30));
        Facts.refused("16 of none", Start.NEW, NONE, t -> t.simplify(0, 0));
        Facts.refused("16 none can be left out", Start.SOME, 5, t -> t.simplify(0, 0));
        Facts.refused("16 of one corner", Start.SOME, 1, t -> t.simplify(4, 30));
        TouchSheet t = Start.SOME.make();
        Due.due("16 all but two", t.simplify(0, 30), 2);
        Due.due("16 two stay", t.simplify(0, 30), 2);
        Due.due("16 its last corner is the last still", t.of(0, 12), 16);
        Due.due("16 what was printed stays", t.up(4, 3), 1);
        Due.due("16 its corner's pin is gone", t.pin(0, 4, 3), 0);
        Due.due("16 the corners that wait are others", t.look(1), 3);
    }

    private static void keptAndLoss() {
        Doc.says("Promise 17", "KEPT as a set.");
        Due.due("17 of none", new TouchSheet().kept(), 0);
        Due.due("17 all twelve", twelveApart().kept(), 4095);
        Due.due("17 one of twelve", marksOnOnePin(12).kept(), 1);
        Facts.refused("17 nothing is done", Start.SOME, Start.SOME.make().kept(), TouchSheet::kept);
        Doc.says("Promise 18", "The sum of WORTHS of those that are not.");
        Due.due("18 of none", new TouchSheet().loss(), 0);
        Due.due("18 none is lost", twelveApart().loss(), 0);
        Due.due("18 the most that can be", marksOnOnePin(12).loss(), 99);
        Facts.refused("18 nothing is done", Start.FULL, Start.FULL.make().loss(), TouchSheet::loss);
        TouchSheet t = marksOnOnePin(1);
        t.undo();
        Due.due("17 none is left", t.kept(), 0);
        Due.due("18 none is left", t.loss(), 0);
    }

    private static void sheetsAndSheet() {
        Doc.says("Promise 19", "How many SHEETS there are (0 without SHAPES).");
        Facts.refused("19 without shapes", Start.NEW, 0, TouchSheet::sheets);
        Due.due("19 one is enough for twelve", twelveApart().sheets(), 1);
        Due.due("19 twelve are needed", marksOnOnePin(12).sheets(), 12);
        TouchSheet t = marksOnOnePin(2);
        Due.due("19 two", t.sheets(), 2);
        t.undo();
        t.undo();
        Due.due("19 none is left", t.sheets(), 0);
        Doc.says("Promise 20", "NONE if there is none such.");
        Due.due("20 none is left", t.sheet(0), NONE);
        for (int no : Outside.of(0, 4)) {
            Facts.refused("20 sheet(" + no + ")", Start.SOME, NONE, s -> s.sheet(no));
        }
        for (int no : Outside.of(0, 11)) {
            Facts.refused("20 sheet(" + no + ")", Start.FULL, NONE, s -> s.sheet(no));
        }
        Facts.refused("20 sheet(0) without shapes", Start.NEW, NONE, s -> s.sheet(0));
        Due.due("20 the twelfth", marksOnOnePin(12).sheet(11), 11);
    }

    private static void texture() {
        Doc.says("Promise 21", "NONE: it is no GROUND");
        int[] others = {0, 3, 4};
        for (int i : others) {
            Facts.refused("21 a line or a mark", Start.SOME, NONE, t -> t.texture(i));
        }
        for (int no : Outside.of(0, 4)) {
            Facts.refused("21 texture(" + no + ")", Start.SOME, NONE, t -> t.texture(no));
        }
        Facts.refused("21 texture(0) without shapes", Start.NEW, NONE, t -> t.texture(0));
        Doc.says("Promise 21", "or none has one.");
        TouchSheet five = groundsOnOnePlace(5);
        for (int i = 0; i < 5; i++) {
            Due.due("21 five on one place", five.texture(i), NONE);
        }
        TouchSheet none = twelveApart();
        tellNoneApart(none);
        for (int i = 0; i < 12; i++) {
            Due.due("21 none told apart, but none has a neighbour", none.texture(i), 0);
        }
        TouchSheet two = groundsOnOnePlace(2);
        tellNoneApart(two);
        Due.due("21 none told apart, two neighbours", two.texture(0), NONE);
        two.apart(2, 3, true);
        Due.due("21 two told apart", two.texture(1), 3);
    }

    private static void tellNoneApart(TouchSheet t) {
        for (int s = 0; s < 4; s++) {
            for (int u = 0; u < s; u++) {
                t.apart(s, u, false);
            }
        }
    }

    private static void cost() {
        Doc.says("Promise 22", "NONE if there is no such way");
        TouchSheet t = groundsOnOnePlace(4);
        Due.due("22 four on one place", t.cost(), 6);
        t.ground(5, 5, 8, 8, 1);
        Due.due("22 five on one place", t.cost(), NONE);
        Doc.says("Promise 22", "(0 without GROUNDS)");
        Facts.refused("22 without shapes", Start.NEW, 0, TouchSheet::cost);
        Due.due("22 marks alone", marksOnOnePin(12).cost(), 0);
        TouchSheet none = marksOnOnePin(2);
        tellNoneApart(none);
        Due.due("22 marks alone, none told apart", none.cost(), 0);
        TouchSheet dear = twelveApart();
        for (int texture = 0; texture < 4; texture++) {
            dear.price(texture, 99);
        }
        Due.due("22 the most that can be", dear.cost(), 12 * 99);
    }

    private static void print() {
        Doc.says("Promise 23", "(in place of the one ahead)");
        TouchSheet t = Start.SOME.make();
        Due.due("23 one pin in place of all", t.print(0b10000), 1);
        Due.due("23 nothing is left of the one ahead", t.things() + t.up(0, 0) + t.up(14, 8), 1);
        Due.due("23 none in place of one", t.print(0), 0);
        Due.due("23 nothing is up", t.up(20, 20) + t.things(), 0);
        Doc.says("Promise 23", "NONE, and nothing is done, if one can't be.");
        for (int no : Outside.of(0, 31)) {
            Facts.refused("23 print(" + no + ")", Start.SOME, NONE, s -> s.print(no));
        }
        for (int no : Outside.of(0, 4095)) {
            Facts.refused("23 print(" + no + ")", Start.FULL, NONE, s -> s.print(no));
        }
        for (int no : Outside.of(0, 0)) {
            Facts.refused("23 print(" + no + ")", Start.NEW, NONE, s -> s.print(no));
        }
        for (int i = 5; i < 32; i++) {
            int set = 1 << i | 1;
            Facts.refused("23 shape 0 and " + i, Start.SOME, NONE, s -> s.print(set));
        }
        Facts.refused("23 none of none", Start.NEW, 0, s -> s.print(0));
        TouchSheet whole = new TouchSheet();
        whole.corner(0, 0);
        whole.line(1);
        for (int i = 0; i < 5; i++) {
            whole.ground(0, 0, 23, 23, 1);
        }
        Due.due("23 the most that can be up", whole.print(63), 576);
    }

    private static void up() {
        Doc.says("Promise 24", "(0 ahead of any)");
        for (int y = 0; y < 24; y++) {
            TouchSheet t = new TouchSheet();
            t.ground(0, 0, 23, 23, 1);
            for (int x = 0; x < 24; x++) {
                Due.due("24 ahead of any, up(" + x + ", " + y + ")", t.up(x, y), 0);
            }
        }
        Doc.says("Promise 24", "NONE if it is no PIN.");
        for (int no : Outside.of(0, 23)) {
            Facts.refused("24 up(" + no + ", 0)", Start.SOME, NONE, t -> t.up(no, 0));
            Facts.refused("24 up(0, " + no + ")", Start.SOME, NONE, t -> t.up(0, no));
            Facts.refused("24 up(" + no + ", 0) ahead of any", Start.NEW, NONE, t -> t.up(no, 0));
        }
    }

    private static void things() {
        Doc.says("Promise 25", "How many THINGS THE FINGER finds on what was PRINTED.");
        Facts.refused("25 ahead of any", Start.NEW, 0, TouchSheet::things);
        TouchSheet t = twelveApart();
        Due.due("25 ahead of any, with shapes", t.things(), 0);
        t.print(4095);
        Due.due("25 the most that can be", t.things(), 12);
        t.print(0);
        Due.due("25 nothing is up", t.things(), 0);
        TouchSheet one = marksOnOnePin(12);
        one.print(4095);
        Due.due("25 all in one", one.things(), 1);
    }

    private static void thing() {
        Doc.says("Promise 26", "1 .. 4 its box (least x, least y, greatest x, greatest y)");
        TouchSheet whole = new TouchSheet();
        whole.ground(0, 0, 23, 23, 1);
        whole.print(1);
        int[] facts = {92, 0, 0, 23, 23, 0};
        for (int what = 0; what < 6; what++) {
            Due.due("26 from end to end, what " + what, whole.thing(0, what), facts[what]);
        }
        linesAlongTheSides();
        Doc.says("Promise 26", "NONE if there is none such");
        for (int what = 0; what < 6; what++) {
            Due.due("26 ahead of any", new TouchSheet().thing(0, what), NONE);
        }
        int last = Start.SOME.make().things() - 1;
        for (int no : Outside.of(0, last)) {
            Facts.refused("26 thing(" + no + ", 0)", Start.SOME, NONE, t -> t.thing(no, 0));
        }
        for (int no : Outside.of(0, 11)) {
            TouchSheet t = twelveApart();
            t.print(4095);
            Due.due("26 thing(" + no + ", 0) of twelve", t.thing(no, 0), NONE);
            Due.due("26 the twelfth", t.thing(11, 0), 1);
        }
        fewerThingsThanAhead();
        Doc.says("Promise 26", "or another what.");
        for (int no : Outside.of(0, 5)) {
            Facts.refused("26 thing(0, " + no + ")", Start.SOME, NONE, t -> t.thing(0, no));
        }
    }

    private static void linesAlongTheSides() {
        int[][] sides = {{0, 0, 23, 0}, {0, 23, 23, 23}, {0, 0, 0, 23}, {23, 0, 23, 23}, {0, 0, 1, 0}, {0, 0, 0, 1}};
        for (int[] side : sides) {
            TouchSheet t = new TouchSheet();
            t.corner(side[0], side[1]);
            t.corner(side[2], side[3]);
            t.line(1);
            int pins = t.print(1);
            Due.due("26 its pins", t.thing(0, 0), pins);
            for (int k = 0; k < 4; k++) {
                Due.due("26 the box along a side, what " + (1 + k), t.thing(0, 1 + k), side[k]);
            }
            Due.due("26 its ends", t.thing(0, 5), 2);
        }
    }

    private static void fewerThingsThanAhead() {
        TouchSheet t = twelveApart();
        t.print(4095);
        t.print(0b101);
        Due.due("26 two are left", t.things(), 2);
        Due.due("26 the second", t.thing(1, 1), 14);
        Due.due("26 no third, though there was one ahead", t.thing(2, 0), NONE);
        t.print(0);
        Due.due("26 no first", t.thing(0, 0), NONE);
    }
}
