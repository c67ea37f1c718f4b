/**
 * A maker of sheets for fingers on a grid of pins. What each call promises stands in the project's
 * document; the words in capitals here (SHAPE, NEAR, KEPT, SHEET, ..) are that document's terms.
 */
public final class TouchSheet {
    public static final int NONE = -1;

    private static final int SIDE = 24;
    private static final int WHOLE_ROW = (1 << SIDE) - 1;
    private static final int EVEN_PLACES = 0x555555;
    private static final int MOST_SHAPES = 12;
    private static final int MOST_CORNERS = 8;
    private static final int MOST_WORTH = 9;
    private static final int MOST_GAP = 6;
    private static final int FIRST_GAP = 2;
    private static final int MOST_BOUND = 30;
    private static final int TEXTURES = 4;
    private static final int ALL_TEXTURES = (1 << TEXTURES) - 1;
    private static final int MOST_PRICE = 99;
    private static final int NEIGHBOURS_WITHIN = 3;
    private static final int THING_FACTS = 6;
    private static final int LINE = 0;
    private static final int GROUND = 1;
    private static final int MARK = 2;
    private static final int FIRST_PLACE = 10;

    private final Shape[] shapes = new Shape[MOST_SHAPES];
    private int count;
    private final int[] waitingX = new int[MOST_CORNERS];
    private final int[] waitingY = new int[MOST_CORNERS];
    private int waiting;
    private int leastGap = FIRST_GAP;
    private final int[] meets = new int[MOST_SHAPES];
    private final int[][] distance = new int[MOST_SHAPES][MOST_SHAPES];
    private final Pins swelling = new Pins();
    private final Simpler simpler = new Simpler();
    private final Keeper keeper = new Keeper();
    private final Stacker stacker = new Stacker();
    private final Weaver weaver = new Weaver();
    private final int[] near = new int[MOST_SHAPES];
    private boolean keeperKnows;
    private boolean stackerKnows;
    private boolean weaverKnows;
    private final Pins printed = new Pins();
    private final Finger finger = new Finger();

    public TouchSheet() {
        for (int i = 0; i < MOST_SHAPES; i++) {
            shapes[i] = new Shape();
        }
    }

    public int corner(int x, int y) {
        if (!isPin(x, y) || waiting >= MOST_CORNERS) {
            return NONE;
        }
        waitingX[waiting] = x;
        waitingY[waiting] = y;
        waiting++;
        return waiting;
    }

    public int line(int worth) {
        if (waiting == 0 || !canAdd(worth)) {
            return NONE;
        }
        Shape made = shapes[count];
        made.begin(LINE, worth);
        for (int k = 0; k < waiting; k++) {
            made.addPlace(waitingX[k], waitingY[k]);
        }
        waiting = 0;
        return finish(made);
    }

    public int ground(int x0, int y0, int x1, int y1, int worth) {
        if (!isPin(x0, y0) || !isPin(x1, y1) || x0 > x1 || y0 > y1 || !canAdd(worth)) {
            return NONE;
        }
        Shape made = shapes[count];
        made.begin(GROUND, worth);
        made.addPlace(x0, y0);
        made.addPlace(x1, y1);
        return finish(made);
    }

    public int mark(int x, int y, int worth) {
        if (!isPin(x, y) || !canAdd(worth)) {
            return NONE;
        }
        Shape made = shapes[count];
        made.begin(MARK, worth);
        made.addPlace(x, y);
        return finish(made);
    }

    public boolean undo() {
        if (count == 0) {
            return false;
        }
        count--;
        meets[count] = 0;
        for (int i = 0; i < count; i++) {
            meets[i] &= ~(1 << count);
        }
        forgetAnswers();
        return true;
    }

    public boolean gap(int g) {
        if (g < 1 || g > MOST_GAP) {
            return false;
        }
        leastGap = g;
        forgetAnswers();
        return true;
    }

    public boolean meet(int a, int b, boolean is) {
        if (!isShape(a) || !isShape(b) || a == b || has(meets[a], b) == is) {
            return false;
        }
        meets[a] ^= 1 << b;
        meets[b] ^= 1 << a;
        forgetAnswers();
        return true;
    }

    public boolean apart(int s, int t, boolean is) {
        if (!isTexture(s) || !isTexture(t) || s == t || has(weaver.apartFrom[s], t) == is) {
            return false;
        }
        weaver.apartFrom[s] ^= 1 << t;
        weaver.apartFrom[t] ^= 1 << s;
        forgetAnswers();
        return true;
    }

    public boolean price(int t, int v) {
        if (!isTexture(t) || v < 0 || v > MOST_PRICE) {
            return false;
        }
        weaver.prices[t] = v;
        forgetAnswers();
        return true;
    }

    public int look(int what) {
        switch (what) {
            case 0:
                return count;
            case 1:
                return waiting;
            case 2:
                return leastGap;
            default:
                return NONE;
        }
    }

    public int of(int i, int what) {
        if (!isShape(i)) {
            return NONE;
        }
        Shape shape = shapes[i];
        switch (what) {
            case 0:
                return shape.kind;
            case 1:
                return shape.worth;
            case 2:
                return shape.pins.size();
            case 3:
                return shape.kind == LINE ? shape.places : 0;
            default:
                return what < FIRST_PLACE ? NONE : shape.coordinate(what - FIRST_PLACE);
        }
    }

    public int pin(int i, int x, int y) {
        if (!isShape(i) || !isPin(x, y)) {
            return NONE;
        }
        return shapes[i].pins.holds(x, y) ? 1 : 0;
    }

    public int far(int a, int b) {
        if (!isShape(a) || !isShape(b)) {
            return NONE;
        }
        return distance[a][b];
    }

    public int simple(int i, int bound, int what) {
        if (!canSimplify(i, bound) || what < 0 || what > 1) {
            return NONE;
        }
        int set = simpler.fewest(shapes[i], bound);
        return what == 0 ? Integer.bitCount(set) : set;
    }

    public int simplify(int i, int bound) {
        if (!canSimplify(i, bound)) {
            return NONE;
        }
        Shape shape = shapes[i];
        shape.keepPlaces(simpler.fewest(shape, bound));
        shape.draw();
        measure(i);
        forgetAnswers();
        return shape.places;
    }

    public int kept() {
        return chosen();
    }

    public int loss() {
        int set = chosen();
        int sum = 0;
        for (int i = 0; i < count; i++) {
            sum += has(set, i) ? 0 : shapes[i].worth;
        }
        return sum;
    }

    public int sheets() {
        stack();
        return stacker.sheetCount;
    }

    public int sheet(int i) {
        if (!isShape(i)) {
            return NONE;
        }
        stack();
        return stacker.sheetOf[i];
    }

    public int texture(int i) {
        if (!isShape(i)) {
            return NONE;
        }
        weave();
        return weaver.textureOf(i);
    }

    public int cost() {
        weave();
        return weaver.sumOfPrices();
    }

    public int print(int set) {
        if (set < 0 || set >= 1 << count) {
            return NONE;
        }
        weave();
        printed.clear();
        for (int i = 0; i < count; i++) {
            if (has(set, i)) {
                press(shapes[i], weaver.textureOf(i));
            }
        }
        finger.feel(printed);
        return printed.size();
    }

    public int up(int x, int y) {
        if (!isPin(x, y)) {
            return NONE;
        }
        return printed.holds(x, y) ? 1 : 0;
    }

    public int things() {
        return finger.found;
    }

    public int thing(int i, int what) {
        if (i < 0 || i >= finger.found || what < 0 || what >= THING_FACTS) {
            return NONE;
        }
        return finger.facts[i][what];
    }

    private static boolean isPin(int x, int y) {
        return x >= 0 && x < SIDE && y >= 0 && y < SIDE;
    }

    private static boolean isTexture(int t) {
        return t >= 0 && t < TEXTURES;
    }

    private static boolean has(int set, int i) {
        return (set >> i & 1) != 0;
    }

    private boolean isShape(int i) {
        return i >= 0 && i < count;
    }

    private boolean canAdd(int worth) {
        return worth >= 1 && worth <= MOST_WORTH && count < MOST_SHAPES;
    }

    private boolean canSimplify(int i, int bound) {
        return isShape(i) && shapes[i].kind == LINE && bound >= 0 && bound <= MOST_BOUND;
    }

    private int finish(Shape made) {
        int number = count;
        made.draw();
        count++;
        measure(number);
        forgetAnswers();
        return number;
    }

    private void forgetAnswers() {
        keeperKnows = false;
        stackerKnows = false;
        weaverKnows = false;
    }

    /** FAR of SHAPE i to each: it swells by one PIN to all sides until it has reached every other. */
    private void measure(int i) {
        swelling.copy(shapes[i].pins);
        int unreached = (1 << count) - 1;
        for (int steps = 0; steps < SIDE && unreached != 0; steps++) {
            for (int j = 0; j < count; j++) {
                if (has(unreached, j) && swelling.touch(shapes[j].pins)) {
                    unreached &= ~(1 << j);
                    distance[i][j] = steps;
                    distance[j][i] = steps;
                }
            }
            swelling.swell();
        }
    }

    private void lookWhatIsNear() {
        for (int i = 0; i < count; i++) {
            near[i] = within(i, leastGap - 1) & ~meets[i];
        }
    }

    /** The other SHAPES, as a set, that lie at most so far from SHAPE i. */
    private int within(int i, int most) {
        int set = 0;
        for (int j = 0; j < count; j++) {
            if (j != i && distance[i][j] <= most) {
                set |= 1 << j;
            }
        }
        return set;
    }

    private int chosen() {
        if (!keeperKnows) {
            lookWhatIsNear();
            keeper.choose(shapes, near, count);
            keeperKnows = true;
        }
        return keeper.keptSet;
    }

    private void stack() {
        if (!stackerKnows) {
            lookWhatIsNear();
            stacker.lay(near, count);
            stackerKnows = true;
        }
    }

    private void weave() {
        if (!weaverKnows) {
            int grounds = groundSet();
            for (int i = 0; i < count; i++) {
                weaver.neighbours[i] = within(i, NEIGHBOURS_WITHIN) & grounds;
            }
            weaver.giveTextures(grounds);
            weaverKnows = true;
        }
    }

    private int groundSet() {
        int set = 0;
        for (int i = 0; i < count; i++) {
            if (shapes[i].kind == GROUND) {
                set |= 1 << i;
            }
        }
        return set;
    }

    private void press(Shape shape, int texture) {
        if (shape.kind != GROUND) {
            printed.join(shape.pins);
            return;
        }
        int sides = 1 << shape.xs[0] | 1 << shape.xs[1];
        for (int y = shape.ys[0]; y <= shape.ys[1]; y++) {
            boolean rim = y == shape.ys[0] || y == shape.ys[1];
            int raised = rim ? WHOLE_ROW : sides | rowOfTexture(texture, y);
            printed.rows[y] |= shape.pins.rows[y] & raised;
        }
    }

    private static int rowOfTexture(int texture, int y) {
        boolean even = y % 2 == 0;
        switch (texture) {
            case 0:
                return 0;
            case 1:
                return even ? EVEN_PLACES : ~EVEN_PLACES;
            case 2:
                return EVEN_PLACES;
            case 3:
                return even ? WHOLE_ROW : 0;
            default:
                return WHOLE_ROW;
        }
    }

    /** The greatest weight of a set of those below top that are free, no two barred to each other. */
    private static int heaviest(int top, int free, int[] barred, int[] weights) {
        int i = top - 1;
        while (i >= 0 && !has(free, i)) {
            i--;
        }
        if (i < 0) {
            return 0;
        }
        int below = free & (1 << i) - 1;
        int with = weights[i] + heaviest(i, below & ~barred[i], barred, weights);
        if ((below & barred[i]) == 0) {
            return with;
        }
        return Math.max(with, heaviest(i, below, barred, weights));
    }

    /** A set of PINS: a row for each y, with bit x for PIN x, y. */
    private static final class Pins {
        final int[] rows = new int[SIDE];

        void clear() {
            for (int y = 0; y < SIDE; y++) {
                rows[y] = 0;
            }
        }

        void copy(Pins other) {
            for (int y = 0; y < SIDE; y++) {
                rows[y] = other.rows[y];
            }
        }

        void join(Pins other) {
            for (int y = 0; y < SIDE; y++) {
                rows[y] |= other.rows[y];
            }
        }

        void drop(Pins other) {
            for (int y = 0; y < SIDE; y++) {
                rows[y] &= ~other.rows[y];
            }
        }

        void keepOnly(Pins other) {
            for (int y = 0; y < SIDE; y++) {
                rows[y] &= other.rows[y];
            }
        }

        void raise(int x, int y) {
            if (isPin(x, y)) {
                rows[y] |= 1 << x;
            }
        }

        boolean holds(int x, int y) {
            return isPin(x, y) && has(rows[y], x);
        }

        int size() {
            int sum = 0;
            for (int y = 0; y < SIDE; y++) {
                sum += Integer.bitCount(rows[y]);
            }
            return sum;
        }

        boolean touch(Pins other) {
            for (int y = 0; y < SIDE; y++) {
                if ((rows[y] & other.rows[y]) != 0) {
                    return true;
                }
            }
            return false;
        }

        /** Takes in all that lie beside one of the set, of the eight. */
        void swell() {
            int above = 0;
            int here = widened(rows[0]);
            for (int y = 0; y < SIDE; y++) {
                int below = y + 1 < SIDE ? widened(rows[y + 1]) : 0;
                rows[y] = above | here | below;
                above = here;
                here = below;
            }
        }

        private static int widened(int row) {
            return (row | row << 1 | row >> 1) & WHOLE_ROW;
        }

        /** How many of the set lie beside x, y, itself one of the set: all of the nine less that one. */
        int countBeside(int x, int y) {
            int threePlaces = 7 << x >> 1;
            int sum = -1;
            for (int row = Math.max(y - 1, 0); row <= Math.min(y + 1, SIDE - 1); row++) {
                sum += Integer.bitCount(rows[row] & threePlaces);
            }
            return sum;
        }
    }

    /** A LINE by its CORNERS, a GROUND by its first and last PIN, a MARK by its middle. */
    private static final class Shape {
        int kind;
        int worth;
        int places;
        final int[] xs = new int[MOST_CORNERS];
        final int[] ys = new int[MOST_CORNERS];
        final Pins pins = new Pins();

        void begin(int newKind, int newWorth) {
            kind = newKind;
            worth = newWorth;
            places = 0;
        }

        void addPlace(int x, int y) {
            if (places < MOST_CORNERS) {
                xs[places] = x;
                ys[places] = y;
                places++;
            }
        }

        void keepPlaces(int set) {
            int before = places;
            places = 0;
            for (int k = 0; k < before; k++) {
                if (has(set, k)) {
                    addPlace(xs[k], ys[k]);
                }
            }
        }

        /** x and y of the places in turn; NONE behind the last. */
        int coordinate(int n) {
            int place = n / 2;
            if (n < 0 || place >= places) {
                return NONE;
            }
            return n % 2 == 0 ? xs[place] : ys[place];
        }

        void draw() {
            pins.clear();
            if (kind == LINE) {
                drawLine();
            } else if (kind == GROUND) {
                drawGround();
            } else {
                drawMark();
            }
        }

        private void drawLine() {
            pins.raise(xs[0], ys[0]);
            for (int k = 1; k < places; k++) {
                drawStep(xs[k - 1], ys[k - 1], xs[k], ys[k]);
            }
        }

        private void drawStep(int x0, int y0, int x1, int y1) {
            int dx = x1 - x0;
            int dy = y1 - y0;
            int n = Math.max(Math.abs(dx), Math.abs(dy));
            if (n == 0) {
                return;
            }
            for (int k = 0; k <= n; k++) {
                int x = x0 + Math.floorDiv(2 * k * dx + n, 2 * n);
                int y = y0 + Math.floorDiv(2 * k * dy + n, 2 * n);
                pins.raise(x, y);
            }
        }

        private void drawGround() {
            int row = (2 << xs[1]) - (1 << xs[0]);
            for (int y = ys[0]; y <= ys[1]; y++) {
                pins.rows[y] = row;
            }
        }

        private void drawMark() {
            int x = xs[0];
            int y = ys[0];
            pins.raise(x, y);
            pins.raise(x - 1, y);
            pins.raise(x + 1, y);
            pins.raise(x, y - 1);
            pins.raise(x, y + 1);
        }
    }

    /** Finds the fewest CORNERS of a LINE that leave out none farther off than told. */
    private static final class Simpler {
        private final int[] fewestFrom = new int[MOST_CORNERS];
        private final int[] nextAfter = new int[MOST_CORNERS];

        /** The set of CORNERS kept. From the back, so that the least next one wins among equals. */
        int fewest(Shape line, int bound) {
            int last = line.places - 1;
            for (int i = last; i >= 0; i--) {
                fewestFrom[i] = i == last ? 1 : MOST_CORNERS + 1;
                nextAfter[i] = last;
                for (int j = i + 1; j <= last; j++) {
                    if (fewestFrom[j] + 1 < fewestFrom[i] && canStep(line, i, j, bound)) {
                        fewestFrom[i] = fewestFrom[j] + 1;
                        nextAfter[i] = j;
                    }
                }
            }
            return walk(last);
        }

        private int walk(int last) {
            int set = 1;
            int at = 0;
            for (int k = 0; k < MOST_CORNERS && at < last; k++) {
                at = nextAfter[at];
                set |= 1 << at;
            }
            return set;
        }

        private static boolean canStep(Shape line, int i, int j, int bound) {
            for (int c = i + 1; c < j; c++) {
                if (!isWithin(line, c, i, j, bound)) {
                    return false;
                }
            }
            return true;
        }

        /** Whether CORNER c lies within the bound of the step from i to j; squares keep it exact. */
        private static boolean isWithin(Shape line, int c, int i, int j, int bound) {
            int stepX = line.xs[j] - line.xs[i];
            int stepY = line.ys[j] - line.ys[i];
            int offX = line.xs[c] - line.xs[i];
            int offY = line.ys[c] - line.ys[i];
            int length = stepX * stepX + stepY * stepY;
            int along = offX * stepX + offY * stepY;
            int most = bound * bound;
            if (along <= 0) {
                return offX * offX + offY * offY <= most;
            }
            if (along >= length) {
                int endX = offX - stepX;
                int endY = offY - stepY;
                return endX * endX + endY * endY <= most;
            }
            int aside = offX * stepY - offY * stepX;
            return aside * aside <= most * length;
        }
    }

    /** Finds KEPT. */
    private static final class Keeper {
        private static final int COUNT_PLACE = 12;
        private static final int WORTH_PLACE = 16;

        private final int[] weights = new int[MOST_SHAPES];
        int keptSet;

        /**
         * The weight of a set is its WORTHS, then how many it has, less the set as a number, each in
         * bits of its own: so the greatest weight is KEPT, and the set can be read from it.
         */
        void choose(Shape[] shapes, int[] near, int count) {
            for (int i = 0; i < count; i++) {
                weights[i] = (shapes[i].worth << WORTH_PLACE) + (1 << COUNT_PLACE) - (1 << i);
            }
            int weight = heaviest(count, (1 << count) - 1, near, weights);
            keptSet = -weight & (1 << COUNT_PLACE) - 1;
        }
    }

    /** Lays the SHAPES on SHEETS. */
    private static final class Stacker {
        private final int[] heldBy = new int[MOST_SHAPES];
        private final int[] notNear = new int[MOST_SHAPES];
        private final int[] ones = new int[MOST_SHAPES];
        final int[] sheetOf = new int[MOST_SHAPES];
        int sheetCount;

        /** The most SHAPES of which any two are NEAR need as many SHEETS: the search starts there. */
        void lay(int[] near, int count) {
            for (int i = 0; i < count; i++) {
                notNear[i] = ~near[i];
                ones[i] = 1;
            }
            int needed = heaviest(count, (1 << count) - 1, notNear, ones);
            for (int most = needed; most <= count; most++) {
                if (layOn(most, near, count)) {
                    sheetCount = most;
                    return;
                }
            }
        }

        private boolean layOn(int most, int[] near, int count) {
            for (int sheet = 0; sheet < most; sheet++) {
                heldBy[sheet] = 0;
            }
            return place(0, 0, most, near, count);
        }

        /** Each from SHAPE i on is tried on the least SHEET first, so the first way found is the one due. */
        private boolean place(int i, int used, int most, int[] near, int count) {
            if (i >= count) {
                return true;
            }
            for (int sheet = 0; sheet <= used && sheet < most; sheet++) {
                if ((heldBy[sheet] & near[i]) != 0) {
                    continue;
                }
                heldBy[sheet] |= 1 << i;
                sheetOf[i] = sheet;
                if (place(i + 1, Math.max(used, sheet + 1), most, near, count)) {
                    return true;
                }
                heldBy[sheet] &= ~(1 << i);
                boolean troublesNoneBehind = near[i] >> i == 0;
                if (troublesNoneBehind) {
                    return false;
                }
            }
            return false;
        }
    }

    /**
     * Gives the GROUNDS their TEXTURES. The weight of a way is its PRICES, then the TEXTURES from the
     * first SHAPE on, each in bits of its own: so the least weight is the way due, the TEXTURES can be
     * read from it, and the weights of GROUNDS that don't mind each other add up.
     */
    private static final class Weaver {
        private static final int TEXTURE_BITS = 2;
        private static final int PRICE_PLACE = TEXTURE_BITS * MOST_SHAPES;
        private static final long NO_WAY = 1L << 60;

        final int[] apartFrom = new int[TEXTURES];
        final int[] prices = new int[TEXTURES];
        final int[] neighbours = new int[MOST_SHAPES];
        private final int[] byPrice = new int[TEXTURES];
        private final int[] cheapest = new int[ALL_TEXTURES + 1];
        private final int[] takers = new int[TEXTURES];
        /** What is open to each GROUND once as many as the first index have been given a TEXTURE. */
        private final int[][] open = new int[MOST_SHAPES + 1][MOST_SHAPES];
        private int grounds;
        private long best;

        Weaver() {
            for (int t = 0; t < TEXTURES; t++) {
                apartFrom[t] = ALL_TEXTURES & ~(1 << t);
                prices[t] = t;
            }
        }

        void giveTextures(int groundSet) {
            grounds = groundSet;
            rankTextures();
            for (int g = 0; g < MOST_SHAPES; g++) {
                open[0][g] = ALL_TEXTURES;
            }
            best = leastBelow(NO_WAY, grounds, 0);
        }

        int textureOf(int i) {
            if (best == NO_WAY || !has(grounds, i)) {
                return NONE;
            }
            return (int) (best >> placeOf(i)) & TEXTURES - 1;
        }

        int sumOfPrices() {
            return best == NO_WAY ? NONE : (int) (best >> PRICE_PLACE);
        }

        private static int placeOf(int i) {
            return TEXTURE_BITS * (MOST_SHAPES - 1 - i);
        }

        private long weight(int g, int t) {
            return ((long) prices[t] << PRICE_PLACE) + ((long) t << placeOf(g));
        }

        private void rankTextures() {
            for (int t = 0; t < TEXTURES; t++) {
                int rank = 0;
                for (int s = 0; s < TEXTURES; s++) {
                    boolean ahead = prices[s] < prices[t] || prices[s] == prices[t] && s < t;
                    rank += ahead ? 1 : 0;
                }
                byPrice[rank] = t;
            }
            for (int set = 1; set <= ALL_TEXTURES; set++) {
                cheapest[set] = firstByPrice(set);
            }
        }

        private int firstByPrice(int set) {
            for (int k = 0; k < TEXTURES; k++) {
                if (has(set, byPrice[k])) {
                    return byPrice[k];
                }
            }
            return 0;
        }

        /** The least weight for a set of GROUNDS by what is open; NO_WAY if none is below the limit. */
        private long leastBelow(long limit, int set, int level) {
            long sum = cheapestWeight(set, open[level]);
            int left = set;
            for (int k = 0; k < MOST_SHAPES && sum < limit; k++) {
                int g = clashing(left, open[level]);
                if (g == NONE) {
                    return sum;
                }
                int group = groupOf(g, left);
                left &= ~group;
                sum -= cheapestWeight(group, open[level]);
                long found = tryEach(limit - sum, g, group, level);
                sum = found == NO_WAY ? NO_WAY : sum + found;
            }
            return sum < limit ? sum : NO_WAY;
        }

        /** The same for a group, by giving one of it each TEXTURE that is open to it. */
        private long tryEach(long limit, int g, int group, int level) {
            if (level >= MOST_SHAPES) {
                return NO_WAY;
            }
            long least = limit;
            boolean any = false;
            for (int k = 0; k < TEXTURES; k++) {
                int t = byPrice[k];
                if (has(open[level][g], t)) {
                    give(g, t, group, level);
                    long own = weight(g, t);
                    long rest = leastBelow(least - own, group & ~(1 << g), level + 1);
                    if (rest != NO_WAY) {
                        least = own + rest;
                        any = true;
                    }
                }
            }
            return any ? least : NO_WAY;
        }

        private void give(int g, int t, int group, int level) {
            for (int i = 0; i < MOST_SHAPES; i++) {
                if (has(group, i)) {
                    boolean beside = has(neighbours[g], i);
                    open[level + 1][i] = beside ? open[level][i] & apartFrom[t] : open[level][i];
                }
            }
        }

        /** Those of a set that a chain of NEIGHBOURS within it joins to g: the others don't mind them. */
        private int groupOf(int g, int set) {
            int group = 1 << g;
            int before = 0;
            for (int round = 0; round < MOST_SHAPES && group != before; round++) {
                before = group;
                for (int i = 0; i < MOST_SHAPES; i++) {
                    group |= has(group, i) ? neighbours[i] & set : 0;
                }
            }
            return group;
        }

        /** What a set would weigh if each took the cheapest TEXTURE open to it; NO_WAY if one has none. */
        private long cheapestWeight(int set, int[] choices) {
            long sum = 0;
            for (int g = 0; g < MOST_SHAPES; g++) {
                if (has(set, g)) {
                    if (choices[g] == 0) {
                        return NO_WAY;
                    }
                    sum += weight(g, cheapest[choices[g]]);
                }
            }
            return sum;
        }

        /** Of those whose cheapest TEXTURES clash the one with the fewest open, for it fails soonest. */
        private int clashing(int set, int[] choices) {
            listTakers(set, choices);
            int found = NONE;
            int foundRank = NONE;
            for (int g = 0; g < MOST_SHAPES; g++) {
                if (has(set, g) && (neighbours[g] & clashWith(cheapest[choices[g]])) != 0) {
                    int taken = TEXTURES - Integer.bitCount(choices[g]);
                    int rank = taken * MOST_SHAPES + Integer.bitCount(neighbours[g] & set);
                    if (rank > foundRank) {
                        found = g;
                        foundRank = rank;
                    }
                }
            }
            return found;
        }

        private void listTakers(int set, int[] choices) {
            for (int t = 0; t < TEXTURES; t++) {
                takers[t] = 0;
            }
            for (int g = 0; g < MOST_SHAPES; g++) {
                if (has(set, g)) {
                    takers[cheapest[choices[g]]] |= 1 << g;
                }
            }
        }

        private int clashWith(int t) {
            int set = 0;
            for (int s = 0; s < TEXTURES; s++) {
                set |= has(apartFrom[t], s) ? 0 : takers[s];
            }
            return set;
        }
    }

    /** Reads a SHEET back by its PINS alone. */
    private static final class Finger {
        private final Pins left = new Pins();
        private final Pins held = new Pins();
        /** Each SHAPE hangs together when it is PRINTED, so there are no more THINGS than SHAPES. */
        final int[][] facts = new int[MOST_SHAPES][THING_FACTS];
        int found;

        void feel(Pins up) {
            left.copy(up);
            found = 0;
            for (int y = 0; y < SIDE; y++) {
                for (int x = 0; x < SIDE && left.rows[y] != 0; x++) {
                    if (left.holds(x, y) && found < MOST_SHAPES) {
                        gather(x, y);
                        describe(facts[found]);
                        left.drop(held);
                        found++;
                    }
                }
            }
        }

        private void gather(int x, int y) {
            held.clear();
            held.raise(x, y);
            int before = 0;
            int now = 1;
            for (int round = 0; round < SIDE * SIDE && now > before; round++) {
                held.swell();
                held.keepOnly(left);
                before = now;
                now = held.size();
            }
        }

        private void describe(int[] fact) {
            fact[0] = held.size();
            fact[1] = SIDE;
            fact[2] = SIDE;
            fact[3] = 0;
            fact[4] = 0;
            fact[5] = 0;
            for (int y = 0; y < SIDE; y++) {
                for (int x = 0; x < SIDE && held.rows[y] != 0; x++) {
                    if (held.holds(x, y)) {
                        fact[1] = Math.min(fact[1], x);
                        fact[2] = Math.min(fact[2], y);
                        fact[3] = Math.max(fact[3], x);
                        fact[4] = Math.max(fact[4], y);
                        fact[5] += held.countBeside(x, y) == 1 ? 1 : 0;
                    }
                }
            }
        }
    }
}
