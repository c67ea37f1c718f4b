/** Promises 23 to 26: what is PRINTED, and what THE FINGER finds on it. */
public final class PrintTest {
    private static final int NONE = TouchSheet.NONE;

    public static void main(String[] args) {
        nothingPrinted();
        sets();
        textures();
        withoutTexture();
        whatWasPrintedStays();
        inPlaceOfTheOneAhead();
        thingsByTheirFirstPin();
        hangingTogether();
        ends();
        wrongInputs();
        Due.end();
    }

    private static void nothingPrinted() {
        TouchSheet t = new TouchSheet();
        t.ground(0, 0, 3, 3, 1);
        Due.due("24 ahead of any", t.up(0, 0), 0);
        Due.due("25 ahead of any", t.things(), 0);
        Due.due("26 ahead of any", t.thing(0, 0), NONE);
        Due.due("23 of none", t.print(0), 0);
        Due.due("25 of none", t.things(), 0);
    }

    private static void sets() {
        TouchSheet t = new TouchSheet();
        Due.due("23 without shapes, none", t.print(0), 0);
        Due.due("23 without shapes, one", t.print(1), NONE);
        t.mark(5, 5, 1);
        t.mark(6, 5, 1);
        t.corner(20, 20);
        t.corner(20, 22);
        t.line(1);
        int[] pins = {0, 5, 5, 8, 3, 8, 8, 11};
        for (int set = 0; set < 8; set++) {
            Due.due("23 print(" + set + ")", t.print(set), pins[set]);
        }
        int[] none = {8, 9, 16, -1, Integer.MIN_VALUE, Integer.MAX_VALUE};
        for (int set : none) {
            Due.due("23 print(" + set + ")", t.print(set), NONE);
            Due.due("23 nothing is done", t.up(20, 21), 1);
            Due.due("23 nothing is done", t.things(), 2);
        }
        for (int i = 3; i < 12; i++) {
            t.mark(5, 5, 1);
        }
        Due.due("23 of all twelve", t.print(4095), 11);
        Due.due("23 more than twelve", t.print(4096), NONE);
    }

    private static void isUp(String what, TouchSheet t, int x0, int y0, String... rows) {
        for (int y = 0; y < rows.length; y++) {
            for (int x = 0; x < rows[y].length(); x++) {
                Due.due("24 " + what + ", up(" + (x0 + x) + ", " + (y0 + y) + ")",
                    t.up(x0 + x, y0 + y), rows[y].charAt(x) == '#' ? 1 : 0);
            }
        }
    }

    /** A ground alone takes the cheapest, so its price decides what it has. */
    private static TouchSheet withTexture(int texture, int x0, int y0, int x1, int y1) {
        TouchSheet t = new TouchSheet();
        t.ground(x0, y0, x1, y1, 1);
        for (int other = 0; other < 4; other++) {
            t.price(other, other == texture ? 0 : 9);
        }
        return t;
    }

    private static void textures() {
        String[][] want = {
            {"#######", "#.....#", "#.....#", "#.....#", "#.....#", "#######"},
            {"#######", "#.#.#.#", "##.#.##", "#.#.#.#", "##.#.##", "#######"},
            {"#######", "##.#.##", "##.#.##", "##.#.##", "##.#.##", "#######"},
            {"#######", "#.....#", "#######", "#.....#", "#######", "#######"}};
        for (int texture = 0; texture < 4; texture++) {
            TouchSheet t = withTexture(texture, 3, 2, 9, 7);
            int pins = 0;
            for (String row : want[texture]) {
                pins += row.length() - row.replace("#", "").length();
            }
            Due.due("23 texture " + texture, t.print(1), pins);
            isUp("texture " + texture, t, 3, 2, want[texture]);
            Due.due("24 outside", t.up(2, 2) + t.up(10, 7) + t.up(3, 1) + t.up(9, 8), 0);
            Due.due("25 it hangs together", t.things(), 1);
            Due.due("23 all rim", withTexture(texture, 4, 4, 5, 5).print(1), 4);
            Due.due("23 one pin", withTexture(texture, 4, 4, 4, 4).print(1), 1);
            Due.due("23 one row", withTexture(texture, 4, 4, 9, 4).print(1), 6);
        }
        TouchSheet t = withTexture(0, 3, 2, 9, 7);
        t.mark(6, 5, 1);
        Due.due("23 a mark in a ground", t.print(3), 27);
        isUp("a mark in a ground", t, 3, 2, "#######", "#.....#", "#..#..#", "#.###.#", "#..#..#", "#######");
    }

    private static void withoutTexture() {
        TouchSheet t = new TouchSheet();
        t.ground(0, 0, 4, 4, 1);
        t.ground(5, 0, 9, 4, 1);
        Due.due("23 with textures", t.print(1), 16);
        for (int s = 0; s < 4; s++) {
            for (int u = 0; u < s; u++) {
                t.apart(s, u, false);
            }
        }
        Due.due("23 without: all", t.print(1), 25);
        Due.due("23 without: all of the other", t.print(2), 25);
    }

    private static void whatWasPrintedStays() {
        TouchSheet t = new TouchSheet();
        t.mark(5, 5, 1);
        t.ground(10, 10, 14, 14, 1);
        t.print(3);
        t.undo();
        t.undo();
        t.mark(20, 20, 1);
        Due.due("24 after undo", t.up(5, 4), 1);
        Due.due("24 not yet", t.up(20, 20), 0);
        Due.due("25 after undo", t.things(), 2);
        Due.due("26 after undo", t.thing(1, 0), 16);
        t.price(0, 50);
        Due.due("24 after another price", t.up(11, 11), 0);
    }

    private static void inPlaceOfTheOneAhead() {
        TouchSheet t = new TouchSheet();
        t.mark(5, 5, 1);
        t.mark(15, 15, 1);
        t.print(1);
        Due.due("23 another", t.print(2), 5);
        Due.due("24 the one ahead is gone", t.up(5, 5), 0);
        Due.due("24 the new one", t.up(15, 15), 1);
        Due.due("25 the new one", t.things(), 1);
        Due.due("26 the new one", t.thing(0, 1), 14);
    }

    private static void facts(String what, TouchSheet t, int i, int... want) {
        for (int k = 0; k < want.length; k++) {
            Due.due("26 " + what + ", thing(" + i + ", " + k + ")", t.thing(i, k), want[k]);
        }
    }

    private static void thingsByTheirFirstPin() {
        TouchSheet t = new TouchSheet();
        t.ground(0, 5, 1, 6, 1);
        t.mark(20, 4, 1);
        t.corner(10, 3);
        t.line(1);
        t.corner(23, 23);
        t.corner(16, 19);
        t.line(1);
        t.ground(5, 3, 7, 8, 1);
        Due.due("23 five", t.print(31), 4 + 5 + 1 + 8 + 14);
        Due.due("25 five", t.things(), 5);
        facts("least y, then least x", t, 0, 14, 5, 3, 7, 8, 0);
        facts("one pin", t, 1, 1, 10, 3, 10, 3, 0);
        facts("a mark", t, 2, 5, 19, 3, 21, 5, 0);
        facts("a ground of four", t, 3, 4, 0, 5, 1, 6, 0);
        facts("a line", t, 4, 8, 16, 19, 23, 23, 2);
        Due.due("26 no sixth", t.thing(5, 0), NONE);
    }

    private static void hangingTogether() {
        TouchSheet t = new TouchSheet();
        t.ground(0, 0, 1, 1, 1);
        t.ground(2, 2, 3, 3, 1);
        t.ground(5, 2, 6, 3, 1);
        Due.due("23 three", t.print(7), 12);
        Due.due("25 aslant counts", t.things(), 2);
        facts("aslant", t, 0, 8, 0, 0, 3, 3, 0);
        facts("a pin between", t, 1, 4, 5, 2, 6, 3, 0);
        TouchSheet snake = new TouchSheet();
        int[] ys = {0, 3, 6, 9};
        for (int k = 0; k < 4; k++) {
            snake.corner(k % 2 == 0 ? 0 : 23, ys[k]);
            snake.corner(k % 2 == 0 ? 23 : 0, ys[k]);
        }
        snake.line(1);
        snake.print(1);
        Due.due("25 a long snake", snake.things(), 1);
        facts("a long snake", snake, 0, 4 * 24 + 3 * 2, 0, 0, 23, 9, 2);
        TouchSheet ring = new TouchSheet();
        ring.ground(0, 0, 23, 23, 1);
        ring.mark(12, 12, 1);
        ring.print(3);
        Due.due("25 one inside a ring", ring.things(), 2);
        facts("the ring", ring, 0, 92, 0, 0, 23, 23, 0);
        edges();
    }

    private static void edges() {
        TouchSheet t = new TouchSheet();
        t.ground(23, 4, 23, 4, 1);
        t.ground(0, 5, 0, 5, 1);
        t.ground(0, 0, 0, 0, 1);
        t.ground(23, 23, 23, 23, 1);
        t.print(15);
        Due.due("25 the ends of rows don't hang together", t.things(), 4);
        facts("first", t, 0, 1, 0, 0, 0, 0, 0);
        facts("second", t, 1, 1, 23, 4, 23, 4, 0);
        facts("third", t, 2, 1, 0, 5, 0, 5, 0);
        facts("last", t, 3, 1, 23, 23, 23, 23, 0);
    }

    private static void ends() {
        TouchSheet t = new TouchSheet();
        t.corner(2, 2);
        t.corner(3, 2);
        t.line(1);
        t.corner(10, 10);
        t.corner(10, 14);
        t.line(1);
        t.corner(8, 12);
        t.corner(12, 12);
        t.line(1);
        t.print(7);
        Due.due("26 two pins are two ends", t.thing(0, 5), 2);
        Due.due("26 a cross has four", t.thing(1, 5), 4);
        t.print(6);
        Due.due("26 the cross alone", t.thing(0, 5), 4);
        t.ground(13, 11, 14, 13, 1);
        t.print(14);
        Due.due("26 one end less at the ground", t.thing(0, 5), 3);
        TouchSheet side = new TouchSheet();
        side.corner(0, 0);
        side.corner(0, 23);
        side.corner(23, 23);
        side.line(1);
        side.print(1);
        Due.due("26 at the sheet's sides", side.thing(0, 5), 2);
    }

    private static void wrongInputs() {
        TouchSheet t = new TouchSheet();
        t.mark(5, 5, 1);
        t.print(1);
        int[][] none = {{-1, 0}, {0, -1}, {24, 0}, {0, 24}, {Integer.MIN_VALUE, 0}, {37, 5}, {5, 29}};
        for (int[] p : none) {
            Due.due("24 up(" + p[0] + ", " + p[1] + ")", t.up(p[0], p[1]), NONE);
        }
        int[] things = {-1, 1, 12, Integer.MIN_VALUE, Integer.MAX_VALUE};
        for (int i : things) {
            Due.due("26 thing(" + i + ", 0)", t.thing(i, 0), NONE);
        }
        int[] whats = {-1, 6, Integer.MIN_VALUE, Integer.MAX_VALUE};
        for (int what : whats) {
            Due.due("26 thing(0, " + what + ")", t.thing(0, what), NONE);
        }
    }
}
