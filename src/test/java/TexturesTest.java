/** Promises 9, 10, 21 and 22: TEXTURES, which are told APART, their PRICES, and who has which. */
public final class TexturesTest {
    private static final int NONE = TouchSheet.NONE;

    public static void main(String[] args) {
        apart();
        price();
        neighboursWithinThree();
        leastSum();
        firstOfSeveral();
        onlyGroundsHaveOne();
        askedFirst();
        noWay();
        oddRingAndTwoApart();
        farGroundsDoNotMind();
        wrongInputs();
        Due.end();
    }

    private static TouchSheet grounds(int... boxes) {
        TouchSheet t = new TouchSheet();
        for (int k = 0; k + 3 < boxes.length; k += 4) {
            t.ground(boxes[k], boxes[k + 1], boxes[k + 2], boxes[k + 3], 1);
        }
        return t;
    }

    private static void textures(String what, TouchSheet t, int cost, int... want) {
        Due.due("22 " + what, t.cost(), cost);
        for (int i = 0; i < want.length; i++) {
            Due.due("21 " + what + ", shape " + i, t.texture(i), want[i]);
        }
    }

    private static void apart() {
        TouchSheet t = grounds(0, 0, 1, 1, 2, 0, 3, 1);
        int[][] none = {{-1, 0}, {0, -1}, {4, 0}, {0, 4}, {2, 2}, {Integer.MAX_VALUE, 1}, {1, 32}, {33, 0}};
        for (int[] p : none) {
            Due.due("9 apart " + p[0] + " " + p[1], t.apart(p[0], p[1], true), false);
            Due.due("9 not apart " + p[0] + " " + p[1], t.apart(p[0], p[1], false), false);
        }
        for (int s = 0; s < 4; s++) {
            for (int u = 0; u < 4; u++) {
                Due.due("9 at first all unlike ones", t.apart(s, u, true), false);
            }
        }
        textures("at first", t, 1, 0, 1);
        Due.due("9 no more", t.apart(1, 0, false), true);
        Due.due("9 it is so", t.apart(1, 0, false), false);
        Due.due("9 it is so both ways", t.apart(0, 1, false), false);
        textures("0 and 1 are like", t, 2, 0, 2);
        Due.due("9 again", t.apart(0, 1, true), true);
        textures("as at first", t, 1, 0, 1);
    }

    private static void price() {
        TouchSheet t = grounds(0, 0, 1, 1);
        int[][] none = {{-1, 0}, {4, 0}, {0, -1}, {0, 100}, {3, Integer.MAX_VALUE}, {Integer.MIN_VALUE, 5}};
        for (int[] p : none) {
            Due.due("10 price " + p[0] + " " + p[1], t.price(p[0], p[1]), false);
        }
        textures("at first the number", t, 0, 0);
        Due.due("10 price(0, 99)", t.price(0, 99), true);
        textures("1 is the cheapest", t, 1, 1);
        t.price(1, 99);
        textures("2 is", t, 2, 2);
        t.price(2, 99);
        textures("3 is", t, 3, 3);
        Due.due("10 price(3, 99)", t.price(3, 99), true);
        textures("all alike: the least", t, 99, 0);
        Due.due("10 the same again", t.price(3, 99), true);
        Due.due("10 price(2, 0)", t.price(2, 0), true);
        textures("for nothing", t, 0, 2);
    }

    private static void neighboursWithinThree() {
        textures("far 3", grounds(0, 0, 1, 1, 4, 0, 5, 1), 1, 0, 1);
        textures("far 4", grounds(0, 0, 1, 1, 5, 0, 6, 1), 0, 0, 0);
        textures("far 3 aslant", grounds(0, 0, 1, 1, 4, 4, 5, 5), 1, 0, 1);
        TouchSheet t = grounds(0, 0, 1, 1, 4, 0, 5, 1);
        t.gap(1);
        t.meet(0, 1, true);
        textures("gap and meet don't matter", t, 1, 0, 1);
    }

    private static void leastSum() {
        // 0 lies beside all the others, which are beside none but it.
        TouchSheet t = grounds(5, 5, 18, 18, 0, 0, 2, 2, 0, 21, 2, 23, 21, 0, 23, 2);
        textures("one pays, not three", t, 1, 1, 0, 0, 0);
        t.price(1, 4);
        textures("2 is cheaper", t, 2, 2, 0, 0, 0);
        t.price(0, 10);
        t.price(1, 11);
        t.price(2, 50);
        t.price(3, 60);
        textures("dear ones", t, 41, 1, 0, 0, 0);
    }

    private static void firstOfSeveral() {
        TouchSheet t = grounds(0, 0, 1, 1, 2, 0, 3, 1);
        textures("the first has the lesser", t, 1, 0, 1);
        t.price(0, 1);
        t.price(1, 1);
        t.price(2, 1);
        t.price(3, 1);
        textures("prices alike", t, 2, 0, 1);
        t.price(3, 0);
        textures("3 is cheap", t, 1, 0, 3);
        TouchSheet chain = grounds(0, 0, 1, 1, 5, 0, 6, 1, 10, 0, 11, 1, 15, 0, 16, 1);
        textures("none are neighbours", chain, 0, 0, 0, 0, 0);
        TouchSheet near = grounds(0, 0, 1, 1, 4, 0, 5, 1, 8, 0, 9, 1, 12, 0, 13, 1);
        textures("a chain", near, 2, 0, 1, 0, 1);
        TouchSheet mixed = grounds(0, 0, 1, 1, 12, 0, 13, 1, 4, 0, 5, 1, 8, 0, 9, 1);
        textures("a chain, ends first", mixed, 2, 0, 1, 1, 0);
    }

    private static void onlyGroundsHaveOne() {
        TouchSheet t = new TouchSheet();
        t.mark(5, 5, 1);
        t.corner(8, 5);
        t.line(1);
        textures("without grounds", t, 0, NONE, NONE);
        t.ground(3, 3, 9, 9, 1);
        textures("lines and marks are no neighbours", t, 0, NONE, NONE, 0);
        t.ground(10, 3, 11, 9, 1);
        textures("two grounds", t, 1, NONE, NONE, 0, 1);
        t.undo();
        textures("undone", t, 0, NONE, NONE, 0, NONE);
    }

    private static void askedFirst() {
        TouchSheet t = grounds(0, 0, 1, 1, 2, 0, 3, 1);
        Due.due("21 ahead of cost", t.texture(1), 1);
        t.price(0, 7);
        Due.due("21 after another price", t.texture(1), 2);
        t.apart(1, 2, false);
        Due.due("21 after less is told apart", t.texture(1), 3);
        t.ground(0, 2, 3, 3, 1);
        Due.due("21 after another ground", t.texture(1), 1);
        t.undo();
        Due.due("21 after undo", t.texture(1), 3);
        TouchSheet printedFirst = grounds(0, 0, 2, 2, 3, 0, 5, 2);
        printedFirst.price(0, 50);
        Due.due("21 print asks by itself", printedFirst.print(1) + printedFirst.up(1, 1), 10);
    }

    private static void noWay() {
        TouchSheet t = grounds(5, 5, 6, 6, 5, 5, 6, 6, 5, 5, 6, 6, 5, 5, 6, 6);
        textures("four", t, 6, 0, 1, 2, 3);
        t.ground(20, 20, 21, 21, 1);
        t.ground(7, 7, 8, 8, 1);
        textures("five", t, NONE, NONE, NONE, NONE, NONE, NONE, NONE);
        t.undo();
        textures("four again", t, 6, 0, 1, 2, 3, 0);
        t.apart(2, 3, false);
        textures("not enough are told apart", t, NONE, NONE, NONE, NONE, NONE, NONE);
        for (int i = 0; i < 5; i++) {
            t.undo();
        }
        textures("without grounds", t, 0, NONE);
    }

    private static void oddRingAndTwoApart() {
        // Five in a ring, each beside two others.
        TouchSheet t = grounds(10, 0, 10, 0, 14, 4, 14, 4, 12, 8, 12, 8, 8, 8, 8, 8, 6, 4, 6, 4);
        for (int i = 0; i < 5; i++) {
            Due.due("21 the ring's steps are 4 far", t.far(i, (i + 1) % 5), 4);
        }
        t = grounds(10, 0, 11, 1, 14, 4, 14, 5, 12, 8, 13, 8, 8, 8, 9, 8, 7, 4, 7, 5);
        textures("a ring of five", t, 4, 0, 1, 0, 1, 2);
        t.apart(0, 2, false);
        t.apart(1, 2, false);
        t.apart(0, 3, false);
        textures("0 1 and 1 3 and 2 3 alone", t, NONE, NONE, NONE, NONE, NONE, NONE);
        t.undo();
        textures("a chain of four", t, 2, 0, 1, 0, 1);
    }

    private static void farGroundsDoNotMind() {
        // Four threes, each of three neighbours: each three takes 0, 1, 2.
        TouchSheet t = grounds(
            0, 0, 1, 1, 20, 0, 21, 1, 0, 20, 1, 21, 20, 20, 21, 21,
            0, 0, 1, 1, 20, 0, 21, 1, 0, 20, 1, 21, 20, 20, 21, 21,
            0, 0, 1, 1, 20, 0, 21, 1, 0, 20, 1, 21, 20, 20, 21, 21);
        textures("four threes", t, 12, 0, 0, 0, 0, 1, 1, 1, 1, 2, 2, 2, 2);
    }

    private static void wrongInputs() {
        TouchSheet t = grounds(0, 0, 1, 1);
        int[] none = {-1, 1, 12, 32, Integer.MIN_VALUE, Integer.MAX_VALUE};
        for (int i : none) {
            Due.due("21 texture(" + i + ")", t.texture(i), NONE);
        }
    }
}
