/** Objects to start from: a new one, one with something of everything, one in which all is full. */
enum Start {
    NEW, SOME, FULL;

    TouchSheet make() {
        TouchSheet t = new TouchSheet();
        if (this == SOME) {
            fillSome(t);
        } else if (this == FULL) {
            fillAll(t);
        }
        return t;
    }

    /** 0 a LINE of five CORNERS, 1 and 2 GROUNDS, 3 a MARK, 4 a LINE of one; three CORNERS wait. */
    private static void fillSome(TouchSheet t) {
        for (int k = 0; k < 5; k++) {
            t.corner(4 * k, k % 2 == 0 ? 0 : 3);
        }
        t.line(5);
        t.ground(2, 6, 6, 10, 3);
        t.ground(8, 6, 12, 10, 4);
        t.mark(14, 8, 2);
        t.corner(20, 20);
        t.line(1);
        t.corner(9, 9);
        t.corner(10, 9);
        t.corner(10, 12);
        t.gap(3);
        t.meet(2, 3, true);
        t.apart(0, 1, false);
        t.price(2, 7);
        t.print(0b01111);
    }

    /** Four LINES, four GROUNDS and four MARKS in turn; eight CORNERS wait. */
    private static void fillAll(TouchSheet t) {
        for (int i = 0; i < 12; i += 3) {
            t.corner(i, 0);
            t.corner(i + 3, 5);
            t.corner(i + 9, 3);
            t.line(9 - i / 3);
            t.ground(2 * i, 8, 2 * i + 4, 12, 1 + i / 3);
            t.mark(2 * i + 1, 18, 5);
        }
        for (int k = 0; k < 8; k++) {
            t.corner(3 * k, 23 - k);
        }
        t.gap(5);
        t.meet(0, 3, true);
        t.meet(1, 4, true);
        t.apart(2, 3, false);
        t.price(0, 99);
        t.price(3, 0);
        t.print(4095);
    }
}
