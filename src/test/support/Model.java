import java.util.ArrayDeque;
import java.util.ArrayList;
import java.util.Arrays;
import java.util.List;

/**
 * The document's promises once more, each by its words and without haste: all sets, all ways, all pairs of pins.
 * It shares no code and, where it can, no way of thinking with the program.
 */
final class Model {
    private static final int NONE = -1;

    private static final class Shape {
        int kind;
        int worth;
        List<int[]> places = new ArrayList<>();
        boolean[][] pins = new boolean[24][24];
    }

    private final List<Shape> shapes = new ArrayList<>();
    private List<int[]> waiting = new ArrayList<>();
    private int gap = 2;
    private final boolean[][] meet = new boolean[12][12];
    private final boolean[][] apart = new boolean[4][4];
    private final int[] price = {0, 1, 2, 3};
    private boolean[][] printed = new boolean[24][24];

    Model() {
        for (int s = 0; s < 4; s++) {
            for (int t = 0; t < 4; t++) {
                apart[s][t] = s != t;
            }
        }
    }

    private static boolean pin(int x, int y) {
        return x >= 0 && x <= 23 && y >= 0 && y <= 23;
    }

    private boolean shape(int i) {
        return i >= 0 && i < shapes.size();
    }

    int corner(int x, int y) {
        if (!pin(x, y) || waiting.size() == 8) {
            return NONE;
        }
        waiting.add(new int[] {x, y});
        return waiting.size();
    }

    private int add(int kind, int worth, List<int[]> places) {
        Shape s = new Shape();
        s.kind = kind;
        s.worth = worth;
        s.places = places;
        s.pins = pinsOf(kind, places);
        shapes.add(s);
        return shapes.size() - 1;
    }

    private boolean room(int worth) {
        return worth >= 1 && worth <= 9 && shapes.size() < 12;
    }

    int line(int worth) {
        if (waiting.isEmpty() || !room(worth)) {
            return NONE;
        }
        List<int[]> places = waiting;
        waiting = new ArrayList<>();
        return add(0, worth, places);
    }

    int ground(int x0, int y0, int x1, int y1, int worth) {
        if (!pin(x0, y0) || !pin(x1, y1) || x0 > x1 || y0 > y1 || !room(worth)) {
            return NONE;
        }
        return add(1, worth, List.of(new int[] {x0, y0}, new int[] {x1, y1}));
    }

    int mark(int x, int y, int worth) {
        if (!pin(x, y) || !room(worth)) {
            return NONE;
        }
        return add(2, worth, List.of(new int[] {x, y}));
    }

    private static boolean[][] pinsOf(int kind, List<int[]> places) {
        boolean[][] pins = new boolean[24][24];
        for (int x = 0; x < 24; x++) {
            for (int y = 0; y < 24; y++) {
                int[] first = places.get(0);
                int[] last = places.get(places.size() - 1);
                if (kind == 1) {
                    pins[x][y] = x >= first[0] && x <= last[0] && y >= first[1] && y <= last[1];
                } else if (kind == 2) {
                    pins[x][y] = Math.abs(x - first[0]) + Math.abs(y - first[1]) <= 1;
                } else {
                    pins[x][y] = x == first[0] && y == first[1];
                }
            }
        }
        for (int c = 1; kind == 0 && c < places.size(); c++) {
            int[] a = places.get(c - 1);
            int[] b = places.get(c);
            int n = Math.max(Math.abs(b[0] - a[0]), Math.abs(b[1] - a[1]));
            for (int k = 0; k <= n && n > 0; k++) {
                // Downwards: the whole part below k * d / n + 1 / 2.
                double x = Math.floor((2.0 * k * (b[0] - a[0]) + n) / (2.0 * n) + 1e-9);
                double y = Math.floor((2.0 * k * (b[1] - a[1]) + n) / (2.0 * n) + 1e-9);
                pins[a[0] + (int) x][a[1] + (int) y] = true;
            }
        }
        return pins;
    }

    boolean undo() {
        if (shapes.isEmpty()) {
            return false;
        }
        int gone = shapes.size() - 1;
        shapes.remove(gone);
        for (int i = 0; i < 12; i++) {
            meet[gone][i] = false;
            meet[i][gone] = false;
        }
        return true;
    }

    boolean gap(int g) {
        if (g < 1 || g > 6) {
            return false;
        }
        gap = g;
        return true;
    }

    boolean meet(int a, int b, boolean is) {
        if (!shape(a) || !shape(b) || a == b || meet[a][b] == is) {
            return false;
        }
        meet[a][b] = is;
        meet[b][a] = is;
        return true;
    }

    boolean apart(int s, int t, boolean is) {
        if (s < 0 || s > 3 || t < 0 || t > 3 || s == t || apart[s][t] == is) {
            return false;
        }
        apart[s][t] = is;
        apart[t][s] = is;
        return true;
    }

    boolean price(int t, int v) {
        if (t < 0 || t > 3 || v < 0 || v > 99) {
            return false;
        }
        price[t] = v;
        return true;
    }

    int look(int what) {
        return what == 0 ? shapes.size() : what == 1 ? waiting.size() : what == 2 ? gap : NONE;
    }

    int of(int i, int what) {
        if (!shape(i)) {
            return NONE;
        }
        Shape s = shapes.get(i);
        List<Integer> answers = new ArrayList<>(Arrays.asList(s.kind, s.worth, count(s.pins)));
        answers.add(s.kind == 0 ? s.places.size() : 0);
        while (answers.size() < 10) {
            answers.add(NONE);
        }
        for (int[] place : s.places) {
            answers.add(place[0]);
            answers.add(place[1]);
        }
        return what < 0 || what >= answers.size() ? NONE : answers.get(what);
    }

    private static int count(boolean[][] pins) {
        int sum = 0;
        for (boolean[] column : pins) {
            for (boolean is : column) {
                sum += is ? 1 : 0;
            }
        }
        return sum;
    }

    int pin(int i, int x, int y) {
        return !shape(i) || !pin(x, y) ? NONE : shapes.get(i).pins[x][y] ? 1 : 0;
    }

    private static List<int[]> list(boolean[][] pins) {
        List<int[]> all = new ArrayList<>();
        for (int y = 0; y < 24; y++) {
            for (int x = 0; x < 24; x++) {
                if (pins[x][y]) {
                    all.add(new int[] {x, y});
                }
            }
        }
        return all;
    }

    int far(int a, int b) {
        if (!shape(a) || !shape(b)) {
            return NONE;
        }
        int least = 99;
        List<int[]> others = list(shapes.get(b).pins);
        for (int[] p : list(shapes.get(a).pins)) {
            for (int[] q : others) {
                least = Math.min(least, Math.max(Math.abs(p[0] - q[0]), Math.abs(p[1] - q[1])));
            }
        }
        return least;
    }

    /** The kept CORNERS' numbers, or null. */
    private List<Integer> simpler(int i, int bound) {
        if (!shape(i) || shapes.get(i).kind != 0 || bound < 0 || bound > 30) {
            return null;
        }
        List<int[]> c = shapes.get(i).places;
        int last = c.size() - 1;
        List<Integer> best = null;
        for (int set = 0; set < 1 << c.size(); set++) {
            if ((set & 1) == 0 || (set >> last & 1) == 0) {
                continue;
            }
            List<Integer> way = new ArrayList<>();
            for (int k = 0; k <= last; k++) {
                if ((set >> k & 1) != 0) {
                    way.add(k);
                }
            }
            if (holds(c, way, bound) && (best == null || ahead(way, best))) {
                best = way;
            }
        }
        return best;
    }

    private static boolean holds(List<int[]> c, List<Integer> way, int bound) {
        for (int k = 1; k < way.size(); k++) {
            for (int out = way.get(k - 1) + 1; out < way.get(k); out++) {
                if (!within(c.get(out), c.get(way.get(k - 1)), c.get(way.get(k)), bound)) {
                    return false;
                }
            }
        }
        return true;
    }

    /** The nearest point is a + t / l (b - a) with t held to 0 .. l. */
    private static boolean within(int[] p, int[] a, int[] b, long bound) {
        long sx = b[0] - a[0];
        long sy = b[1] - a[1];
        long l = Math.max(1, sx * sx + sy * sy);
        long t = Math.max(0, Math.min(l, (p[0] - a[0]) * sx + (p[1] - a[1]) * sy));
        long dx = (p[0] - a[0]) * l - t * sx;
        long dy = (p[1] - a[1]) * l - t * sy;
        return dx * dx + dy * dy <= bound * bound * l * l;
    }

    private static boolean ahead(List<Integer> a, List<Integer> b) {
        if (a.size() != b.size()) {
            return a.size() < b.size();
        }
        for (int k = 0; k < a.size(); k++) {
            if (!a.get(k).equals(b.get(k))) {
                return a.get(k) < b.get(k);
            }
        }
        return false;
    }

    int simple(int i, int bound, int what) {
        List<Integer> way = simpler(i, bound);
        if (way == null || what != 0 && what != 1) {
            return NONE;
        }
        int set = 0;
        for (int k : way) {
            set += 1 << k;
        }
        return what == 0 ? way.size() : set;
    }

    int simplify(int i, int bound) {
        List<Integer> way = simpler(i, bound);
        if (way == null) {
            return NONE;
        }
        Shape s = shapes.get(i);
        List<int[]> left = new ArrayList<>();
        for (int k : way) {
            left.add(s.places.get(k));
        }
        s.places = left;
        s.pins = pinsOf(0, left);
        return left.size();
    }

    private boolean[][] near() {
        int n = shapes.size();
        boolean[][] near = new boolean[n][n];
        for (int i = 0; i < n; i++) {
            for (int j = 0; j < n; j++) {
                near[i][j] = i != j && far(i, j) < gap && !meet[i][j];
            }
        }
        return near;
    }

    int kept() {
        boolean[][] near = near();
        int n = shapes.size();
        int best = 0;
        int bestWorth = 0;
        for (int set = 0; set < 1 << n; set++) {
            int worth = 0;
            boolean can = true;
            for (int i = 0; i < n && can; i++) {
                for (int j = 0; j < i && (set >> i & 1) != 0; j++) {
                    can &= (set >> j & 1) == 0 || !near[i][j];
                }
                worth += (set >> i & 1) * shapes.get(i).worth;
            }
            boolean more = Integer.bitCount(set) > Integer.bitCount(best);
            if (can && (worth > bestWorth || worth == bestWorth && more)) {
                best = set;
                bestWorth = worth;
            }
        }
        return best;
    }

    int loss() {
        int set = kept();
        int sum = 0;
        for (int i = 0; i < shapes.size(); i++) {
            sum += (1 - (set >> i & 1)) * shapes.get(i).worth;
        }
        return sum;
    }

    private int[] ways() {
        int n = shapes.size();
        int[] on = new int[n];
        boolean[][] near = near();
        for (int most = 0; most <= n; most++) {
            if (lay(0, most, on, near)) {
                return on;
            }
        }
        return on;
    }

    private static boolean lay(int i, int most, int[] on, boolean[][] near) {
        if (i == on.length) {
            return true;
        }
        for (on[i] = 0; on[i] < most; on[i]++) {
            boolean can = true;
            int above = 0;
            for (int j = 0; j < i; j++) {
                can &= on[j] != on[i] || !near[i][j];
                above = Math.max(above, on[j] + 1);
            }
            if (on[i] > above) {
                return false;
            }
            if (can && lay(i + 1, most, on, near)) {
                return true;
            }
        }
        return false;
    }

    int sheets() {
        int most = 0;
        for (int on : ways()) {
            most = Math.max(most, on + 1);
        }
        return most;
    }

    int sheet(int i) {
        return shape(i) ? ways()[i] : NONE;
    }

    private int leastCost;
    private int[] leastWay;

    private void weave() {
        List<Integer> grounds = new ArrayList<>();
        for (int i = 0; i < shapes.size(); i++) {
            if (shapes.get(i).kind == 1) {
                grounds.add(i);
            }
        }
        int n = grounds.size();
        boolean[][] beside = new boolean[n][n];
        for (int i = 0; i < n; i++) {
            for (int j = 0; j < n; j++) {
                beside[i][j] = i != j && far(grounds.get(i), grounds.get(j)) <= 3;
            }
        }
        leastCost = Integer.MAX_VALUE;
        leastWay = null;
        int[] found = new int[n];
        give(0, 0, found, beside);
        if (leastWay != null) {
            int[] all = new int[shapes.size()];
            Arrays.fill(all, NONE);
            for (int k = 0; k < n; k++) {
                all[grounds.get(k)] = leastWay[k];
            }
            leastWay = all;
        }
    }

    /** All ways in their order; a later one must be cheaper. */
    private void give(int k, int cost, int[] way, boolean[][] beside) {
        if (cost >= leastCost) {
            return;
        }
        if (k == way.length) {
            leastCost = cost;
            leastWay = way.clone();
            return;
        }
        for (int t = 0; t < 4; t++) {
            boolean can = true;
            for (int j = 0; j < k; j++) {
                can &= !beside[k][j] || apart[way[j]][t];
            }
            if (can) {
                way[k] = t;
                give(k + 1, cost + price[t], way, beside);
            }
        }
    }

    int texture(int i) {
        weave();
        return !shape(i) || leastWay == null ? NONE : leastWay[i];
    }

    int cost() {
        weave();
        return leastWay == null ? NONE : leastCost;
    }

    int print(int set) {
        if (set < 0 || set >= Math.pow(2, shapes.size())) {
            return NONE;
        }
        weave();
        printed = new boolean[24][24];
        for (int i = 0; i < shapes.size(); i++) {
            for (int[] p : (set >> i & 1) != 0 ? list(shapes.get(i).pins) : new ArrayList<int[]>()) {
                printed[p[0]][p[1]] |= isRaised(i, p[0], p[1]);
            }
        }
        return count(printed);
    }

    private boolean isRaised(int i, int x, int y) {
        Shape s = shapes.get(i);
        if (s.kind != 1 || leastWay == null) {
            return true;
        }
        int[] a = s.places.get(0);
        int[] b = s.places.get(1);
        if (x == a[0] || x == b[0] || y == a[1] || y == b[1]) {
            return true;
        }
        int t = leastWay[i];
        return t == 1 && (x + y) % 2 == 0 || t == 2 && x % 2 == 0 || t == 3 && y % 2 == 0;
    }

    int up(int x, int y) {
        return !pin(x, y) ? NONE : printed[x][y] ? 1 : 0;
    }

    private List<int[]> found() {
        boolean[][] seen = new boolean[24][24];
        List<int[]> things = new ArrayList<>();
        for (int[] first : list(printed)) {
            if (!seen[first[0]][first[1]]) {
                things.add(feel(first, seen));
            }
        }
        return things;
    }

    private int[] feel(int[] first, boolean[][] seen) {
        int[] facts = {0, 99, 99, -1, -1, 0};
        ArrayDeque<int[]> ahead = new ArrayDeque<>();
        ahead.add(first);
        seen[first[0]][first[1]] = true;
        while (!ahead.isEmpty()) {
            int[] p = ahead.remove();
            int beside = 0;
            for (int dx = -1; dx <= 1; dx++) {
                for (int dy = -1; dy <= 1; dy++) {
                    int x = p[0] + dx;
                    int y = p[1] + dy;
                    if ((dx != 0 || dy != 0) && pin(x, y) && printed[x][y]) {
                        beside++;
                        if (!seen[x][y]) {
                            seen[x][y] = true;
                            ahead.add(new int[] {x, y});
                        }
                    }
                }
            }
            facts[0]++;
            facts[1] = Math.min(facts[1], p[0]);
            facts[2] = Math.min(facts[2], p[1]);
            facts[3] = Math.max(facts[3], p[0]);
            facts[4] = Math.max(facts[4], p[1]);
            facts[5] += beside == 1 ? 1 : 0;
        }
        return facts;
    }

    int things() {
        return found().size();
    }

    int thing(int i, int what) {
        List<int[]> things = found();
        return i < 0 || i >= things.size() || what < 0 || what > 5 ? NONE : things.get(i)[what];
    }
}
