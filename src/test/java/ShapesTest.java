/** Promises 1 to 8 and 11 to 14: SHAPES, how they come and go, and what can be asked of each. */
public final class ShapesTest {
    private static final int NONE = TouchSheet.NONE;

    public static void main(String[] args) {
        newObject();
        corners();
        lines();
        grounds();
        marks();
        undo();
        gap();
        meet();
        look();
        of();
        pinsOfLines();
        pinsOfOthers();
        far();
        atMostTwelve();
        Due.end();
    }

    private static void newObject() {
        TouchSheet t = new TouchSheet();
        Due.due("1 look(0)", t.look(0), 0);
        Due.due("1 look(1)", t.look(1), 0);
        Due.due("1 look(2)", t.look(2), 2);
        Due.due("1 kept()", t.kept(), 0);
        Due.due("1 loss()", t.loss(), 0);
        Due.due("1 sheets()", t.sheets(), 0);
        Due.due("1 cost()", t.cost(), 0);
        Due.due("1 things()", t.things(), 0);
        Due.due("1 up(0, 0)", t.up(0, 0), 0);
        Due.due("1 undo()", t.undo(), false);
        Due.due("1 of(0, 0)", t.of(0, 0), NONE);
        Due.due("1 sheet(0)", t.sheet(0), NONE);
        Due.due("1 texture(0)", t.texture(0), NONE);
        Due.due("1 far(0, 0)", t.far(0, 0), NONE);
        Due.due("1 thing(0, 0)", t.thing(0, 0), NONE);
        Due.due("1 NONE", NONE, -1);
        t.mark(3, 3, 4);
        Due.due("1 another object has none", new TouchSheet().look(0), 0);
    }

    private static void corners() {
        TouchSheet t = new TouchSheet();
        int[][] none = {{-1, 0}, {0, -1}, {24, 0}, {0, 24}, {Integer.MIN_VALUE, 5}, {5, Integer.MAX_VALUE}};
        for (int[] c : none) {
            Due.due("2 corner(" + c[0] + ", " + c[1] + ")", t.corner(c[0], c[1]), NONE);
        }
        Due.due("2 nothing is done", t.look(1), 0);
        for (int k = 1; k <= 8; k++) {
            Due.due("2 corner " + k, t.corner(k == 1 ? 0 : 23, k == 2 ? 0 : 23), k);
        }
        Due.due("2 corner 9", t.corner(1, 1), NONE);
        Due.due("2 still 8", t.look(1), 8);
        t.line(1);
        Due.due("2 the first of 8", t.of(0, 10), 0);
        Due.due("2 the last of 8", t.of(0, 24), 23);
        Due.due("2 after the line", t.corner(1, 1), 1);
    }

    private static void lines() {
        TouchSheet t = new TouchSheet();
        Due.due("3 line without corners", t.line(5), NONE);
        t.corner(2, 3);
        t.corner(4, 3);
        Due.due("3 line(0)", t.line(0), NONE);
        Due.due("3 line(10)", t.line(10), NONE);
        Due.due("3 line(-1)", t.line(-1), NONE);
        Due.due("3 they wait still", t.look(1), 2);
        t.mark(20, 20, 1);
        Due.due("3 they wait through a mark", t.look(1), 2);
        Due.due("3 line(9)", t.line(9), 1);
        Due.due("3 none waits", t.look(1), 0);
        Due.due("3 line again", t.line(9), NONE);
        t.corner(7, 7);
        Due.due("3 line(1)", t.line(1), 2);
        Due.due("3 kind", t.of(1, 0), 0);
        Due.due("3 worth", t.of(1, 1), 9);
        Due.due("3 the line before keeps its corners", t.of(1, 12), 4);
    }

    private static void grounds() {
        TouchSheet t = new TouchSheet();
        int[][] none = {
            {-1, 0, 3, 3, 1}, {0, -1, 3, 3, 1}, {0, 0, 24, 3, 1}, {0, 0, 3, 24, 1}, {4, 0, 3, 3, 1}, {0, 4, 3, 3, 1},
            {0, 0, 3, 3, 0}, {0, 0, 3, 3, 10}, {0, 0, 3, 3, Integer.MIN_VALUE}, {24, 24, 24, 24, 1},
            {Integer.MIN_VALUE, 0, Integer.MAX_VALUE, 3, 1}};
        for (int[] g : none) {
            Due.due("4 ground " + g[0] + " " + g[1] + " " + g[2] + " " + g[3] + " " + g[4],
                t.ground(g[0], g[1], g[2], g[3], g[4]), NONE);
        }
        Due.due("4 nothing is done", t.look(0), 0);
        Due.due("4 one pin", t.ground(5, 5, 5, 5, 1), 0);
        Due.due("4 all pins", t.ground(0, 0, 23, 23, 9), 1);
        Due.due("4 kind", t.of(1, 0), 1);
        Due.due("4 how many of one", t.of(0, 2), 1);
        Due.due("4 how many of all", t.of(1, 2), 576);
    }

    private static void marks() {
        TouchSheet t = new TouchSheet();
        int[][] none = {{-1, 0, 1}, {24, 0, 1}, {0, -1, 1}, {0, 24, 1}, {0, 0, 0}, {0, 0, 10}};
        for (int[] m : none) {
            Due.due("5 mark " + m[0] + " " + m[1] + " " + m[2], t.mark(m[0], m[1], m[2]), NONE);
        }
        Due.due("5 nothing is done", t.look(0), 0);
        Due.due("5 mark", t.mark(5, 5, 1), 0);
        Due.due("5 in a corner", t.mark(23, 23, 9), 1);
        Due.due("5 at a side", t.mark(0, 12, 9), 2);
        Due.due("5 kind", t.of(0, 0), 2);
        Due.due("5 how many", t.of(0, 2), 5);
        Due.due("5 how many in a corner", t.of(1, 2), 3);
        Due.due("5 how many at a side", t.of(2, 2), 4);
    }

    private static void undo() {
        TouchSheet t = new TouchSheet();
        t.corner(9, 9);
        t.mark(2, 2, 3);
        t.mark(4, 2, 4);
        t.meet(0, 1, true);
        Due.due("6 kept while they meet", t.kept(), 3);
        Due.due("6 undo", t.undo(), true);
        Due.due("6 one is left", t.look(0), 1);
        Due.due("6 none such now", t.of(1, 1), NONE);
        Due.due("6 the corner waits still", t.look(1), 1);
        Due.due("6 the number comes again", t.mark(4, 2, 4), 1);
        Due.due("6 what met has gone", t.kept(), 2);
        Due.due("6 so they can meet anew", t.meet(0, 1, true), true);
        t.undo();
        Due.due("6 undo the first", t.undo(), true);
        Due.due("6 undo none", t.undo(), false);
        Due.due("6 none left", t.look(0), 0);
        Due.due("6 kept of none", t.kept(), 0);
        Due.due("6 the gap stays", t.look(2), 2);
    }

    private static void gap() {
        TouchSheet t = new TouchSheet();
        t.ground(0, 0, 1, 1, 1);
        t.ground(6, 0, 7, 1, 1);
        int[] none = {0, -1, 7, Integer.MIN_VALUE, Integer.MAX_VALUE};
        for (int g : none) {
            Due.due("7 gap(" + g + ")", t.gap(g), false);
            Due.due("7 nothing is done", t.look(2), 2);
        }
        for (int g = 1; g <= 6; g++) {
            Due.due("7 gap(" + g + ")", t.gap(g), true);
            Due.due("7 look(2)", t.look(2), g);
            Due.due("7 near if far is below it", t.sheets(), g > 5 ? 2 : 1);
        }
        Due.due("7 the same again", t.gap(6), true);
    }

    private static void meet() {
        TouchSheet t = new TouchSheet();
        t.mark(2, 2, 3);
        t.mark(4, 2, 4);
        t.mark(6, 2, 3);
        int[][] none = {{-1, 0}, {0, -1}, {3, 0}, {0, 3}, {1, 1}, {Integer.MAX_VALUE, 0}, {0, 32}, {33, 0}};
        for (int[] m : none) {
            Due.due("8 meet " + m[0] + " " + m[1], t.meet(m[0], m[1], true), false);
            Due.due("8 not meet " + m[0] + " " + m[1], t.meet(m[0], m[1], false), false);
        }
        Due.due("8 it was so", t.meet(0, 1, false), false);
        Due.due("8 kept", t.kept(), 5);
        Due.due("8 meet", t.meet(1, 0, true), true);
        Due.due("8 it is so", t.meet(1, 0, true), false);
        Due.due("8 it is so both ways", t.meet(0, 1, true), false);
        Due.due("8 kept with two that meet", t.kept(), 3);
        Due.due("8 far stays", t.far(0, 1), 0);
        Due.due("8 no more", t.meet(0, 1, false), true);
        Due.due("8 kept as ahead", t.kept(), 5);
    }

    private static void look() {
        TouchSheet t = new TouchSheet();
        t.corner(0, 0);
        t.mark(1, 1, 1);
        t.mark(1, 1, 1);
        t.gap(5);
        Due.due("11 look(0)", t.look(0), 2);
        Due.due("11 look(1)", t.look(1), 1);
        Due.due("11 look(2)", t.look(2), 5);
        int[] none = {-1, 3, Integer.MIN_VALUE, Integer.MAX_VALUE};
        for (int what : none) {
            Due.due("11 look(" + what + ")", t.look(what), NONE);
        }
    }

    private static void of() {
        TouchSheet t = new TouchSheet();
        for (int k = 0; k < 8; k++) {
            t.corner(k, 2 * k);
        }
        t.line(6);
        t.ground(3, 4, 5, 7, 7);
        t.mark(8, 9, 2);
        ofAll(t, 0, new int[] {0, 6, 15, 8, -1, -1, -1, -1, -1, -1, 0, 0, 1, 2, 2, 4, 3, 6, 4, 8, 5, 10, 6, 12, 7, 14});
        ofAll(t, 1, new int[] {1, 7, 12, 0, -1, -1, -1, -1, -1, -1, 3, 4, 5, 7});
        ofAll(t, 2, new int[] {2, 2, 5, 0, -1, -1, -1, -1, -1, -1, 8, 9});
        Due.due("12 of(3, 0)", t.of(3, 0), NONE);
        Due.due("12 of(-1, 0)", t.of(-1, 0), NONE);
        Due.due("12 of(MAX, 1)", t.of(Integer.MAX_VALUE, 1), NONE);
    }

    private static void ofAll(TouchSheet t, int i, int[] want) {
        for (int what = -3; what < 40; what++) {
            int due = what >= 0 && what < want.length ? want[what] : NONE;
            Due.due("12 of(" + i + ", " + what + ")", t.of(i, what), due);
        }
        Due.due("12 of(" + i + ", MIN)", t.of(i, Integer.MIN_VALUE), NONE);
        Due.due("12 of(" + i + ", MAX)", t.of(i, Integer.MAX_VALUE), NONE);
    }

    private static void pinsOfLines() {
        TouchSheet t = new TouchSheet();
        t.corner(4, 4);
        t.line(1);
        t.corner(3, 3);
        t.corner(3, 3);
        t.line(1);
        t.corner(10, 10);
        t.corner(6, 8);
        t.corner(10, 10);
        t.line(1);
        Due.due("13 one corner", t.of(0, 2), 1);
        Due.due("13 its pin", t.pin(0, 4, 4), 1);
        Due.due("13 a step of none", t.of(1, 2), 1);
        // There: y is 10 - k / 2, halves upwards, so 10, 10, 9, 9, 8; back: 8, 9, 9, 10, 10 from x 6 on.
        int[][] there = {{10, 10}, {9, 10}, {8, 9}, {7, 9}, {6, 8}};
        for (int[] p : there) {
            Due.due("13 pin " + p[0] + ", " + p[1], t.pin(2, p[0], p[1]), 1);
        }
        Due.due("13 the way back rounds likewise", t.pin(2, 7, 8), 0);
        Due.due("13 how many", t.of(2, 2), 5);
        steep();
    }

    private static void steep() {
        TouchSheet t = new TouchSheet();
        t.corner(0, 0);
        t.corner(2, 7);
        t.line(1);
        int[] xs = {0, 0, 1, 1, 1, 1, 2, 2};
        for (int y = 0; y < 8; y++) {
            for (int x = 0; x < 4; x++) {
                Due.due("13 steep " + x + ", " + y, t.pin(0, x, y), xs[y] == x ? 1 : 0);
            }
        }
    }

    private static void pinsOfOthers() {
        for (int y = 0; y < 24; y++) {
            TouchSheet t = groundAndMark();
            for (int x = 0; x < 24; x++) {
                boolean inGround = x >= 2 && x <= 4 && y >= 3 && y <= 6;
                Due.due("13 of a ground " + x + ", " + y, t.pin(0, x, y), inGround ? 1 : 0);
                Due.due("13 of a mark " + x + ", " + y, t.pin(1, x, y), x + y <= 1 ? 1 : 0);
            }
        }
        TouchSheet t = groundAndMark();
        int[][] none = {{2, 0, 0}, {-1, 0, 0}, {0, -1, 0}, {0, 0, -1}, {0, 24, 0}, {0, 0, 24}, {0, 32, 3}};
        for (int[] p : none) {
            Due.due("13 pin " + p[0] + " " + p[1] + " " + p[2], t.pin(p[0], p[1], p[2]), NONE);
        }
    }

    private static TouchSheet groundAndMark() {
        TouchSheet t = new TouchSheet();
        t.ground(2, 3, 4, 6, 1);
        t.mark(0, 0, 1);
        return t;
    }

    private static void far() {
        TouchSheet t = new TouchSheet();
        t.ground(0, 0, 0, 0, 1);
        t.ground(23, 23, 23, 23, 1);
        t.ground(23, 0, 23, 0, 1);
        t.ground(5, 5, 9, 9, 1);
        t.mark(7, 7, 1);
        t.ground(11, 12, 12, 12, 1);
        Due.due("14 across", t.far(0, 1), 23);
        Due.due("14 along", t.far(0, 2), 23);
        Due.due("14 inside", t.far(3, 4), 0);
        Due.due("14 the greater of both", t.far(3, 5), 3);
        Due.due("14 the other way", t.far(5, 3), 3);
        Due.due("14 itself", t.far(2, 2), 0);
        int[][] none = {{0, 6}, {6, 0}, {-1, 0}, {0, -1}, {6, 6}, {Integer.MIN_VALUE, 0}};
        for (int[] p : none) {
            Due.due("14 far " + p[0] + " " + p[1], t.far(p[0], p[1]), NONE);
        }
        t.undo();
        t.mark(23, 22, 1);
        Due.due("14 after undo the new one", t.far(1, 5), 0);
        Due.due("14 not the old one", t.far(3, 5), 13);
    }

    private static void atMostTwelve() {
        TouchSheet t = new TouchSheet();
        for (int i = 0; i < 12; i++) {
            Due.due("5 mark " + i, t.mark(2 * i, 2 * i, 1), i);
        }
        t.corner(1, 1);
        Due.due("3 a thirteenth", t.line(1), NONE);
        Due.due("3 its corner waits", t.look(1), 1);
        Due.due("4 a thirteenth", t.ground(0, 0, 1, 1, 1), NONE);
        Due.due("5 a thirteenth", t.mark(1, 1, 1), NONE);
        Due.due("12 the twelfth", t.of(11, 10), 22);
        Due.due("11 twelve", t.look(0), 12);
        t.undo();
        Due.due("3 then there is room", t.line(1), 11);
    }
}
