import java.util.Random;

/** Runs of random calls, the same at each start, on the program and on the model: each answer must be the same. */
public final class RandomRunsTest {
    private static final int RUNS = 260;
    private static final int CALLS = 512;
    private static final int MOST_AT_ONCE = 9;
    private static final int[] ODD = {
        Integer.MIN_VALUE, Integer.MIN_VALUE + 10, -32, -1, 12, 24, 31, 32, 33, 64, 4096, Integer.MAX_VALUE};

    private final Random random;
    private final TouchSheet sheet = new TouchSheet();
    private final Model model = new Model();
    private final int run;
    private final int reach;
    private final int[] kinds;
    private int call;

    private RandomRunsTest(int run) {
        this.run = run;
        random = new Random(1000 + run);
        reach = 1 + random.nextInt(run % 3 == 0 ? 24 : 7);
        int[][] mixes = {{0, 1, 2}, {1}, {0}, {2}, {1, 1, 0}, {2, 2, 1}};
        kinds = mixes[run % mixes.length];
    }

    public static void main(String[] args) {
        for (int run = 0; run < RUNS; run++) {
            new RandomRunsTest(run).calls();
        }
        Due.end();
    }

    private void calls() {
        while (call + MOST_AT_ONCE <= CALLS) {
            int what = random.nextInt(20);
            if (what < 7) {
                shape();
            } else if (what < 12) {
                change();
            } else {
                ask();
            }
        }
    }

    private void due(String name, int got, int want) {
        call++;
        Due.due("run " + run + ", call " + call + ", " + name, got, want);
    }

    private void due(String name, boolean got, boolean want) {
        due(name, got ? 1 : 0, want ? 1 : 0);
    }

    /** Mostly a number from 0 on, at times one that can't be. */
    private int number(int below) {
        int odd = random.nextInt(40);
        if (odd == 0) {
            return ODD[random.nextInt(ODD.length)];
        }
        return odd == 1 ? below : odd == 2 ? random.nextInt() : random.nextInt(below);
    }

    private int shapeNumber() {
        return number(Math.max(1, model.look(0)));
    }

    private void shape() {
        int worth = random.nextInt(3) == 0 ? number(11) : 1 + random.nextInt(2);
        int x = number(24);
        int y = number(24);
        int kind = kinds[random.nextInt(kinds.length)];
        if (kind == 0) {
            corners(x, y);
            due("line(" + worth + ")", sheet.line(worth), model.line(worth));
        } else if (kind == 1) {
            int x1 = random.nextInt(9) == 0 ? number(24) : Math.min(23, x + random.nextInt(reach));
            int y1 = random.nextInt(9) == 0 ? number(24) : Math.min(23, y + random.nextInt(reach));
            String name = "ground(" + x + ", " + y + ", " + x1 + ", " + y1 + ", " + worth + ")";
            due(name, sheet.ground(x, y, x1, y1, worth), model.ground(x, y, x1, y1, worth));
        } else {
            due("mark(" + x + ", " + y + ", " + worth + ")", sheet.mark(x, y, worth), model.mark(x, y, worth));
        }
    }

    private void corners(int x, int y) {
        int many = random.nextInt(9);
        for (int k = 0; k < many; k++) {
            int cx = random.nextInt(4) == 0 ? number(24) : Math.max(0, Math.min(23, x + random.nextInt(reach)));
            int cy = random.nextInt(4) == 0 ? number(24) : Math.max(0, Math.min(23, y + random.nextInt(reach)));
            due("corner(" + cx + ", " + cy + ")", sheet.corner(cx, cy), model.corner(cx, cy));
        }
    }

    private void change() {
        int a = shapeNumber();
        int b = shapeNumber();
        int s = number(4);
        int t = number(4);
        boolean is = random.nextBoolean();
        switch (random.nextInt(7)) {
            case 0:
                due("undo()", sheet.undo(), model.undo());
                break;
            case 1:
                int g = number(8);
                due("gap(" + g + ")", sheet.gap(g), model.gap(g));
                break;
            case 2:
            case 3:
                due("meet(" + a + ", " + b + ", " + is + ")", sheet.meet(a, b, is), model.meet(a, b, is));
                break;
            case 4:
                boolean told = random.nextInt(3) > 0;
                due("apart(" + s + ", " + t + ", " + told + ")", sheet.apart(s, t, told), model.apart(s, t, told));
                break;
            case 5:
                int v = random.nextBoolean() ? random.nextInt(3) : number(101);
                due("price(" + t + ", " + v + ")", sheet.price(t, v), model.price(t, v));
                break;
            default:
                int bound = random.nextBoolean() ? random.nextInt(5) : number(32);
                due("simplify(" + a + ", " + bound + ")", sheet.simplify(a, bound), model.simplify(a, bound));
                break;
        }
    }

    private void ask() {
        int i = shapeNumber();
        int x = number(24);
        int y = number(24);
        switch (random.nextInt(11)) {
            case 0:
                int what = number(4);
                due("look(" + what + ")", sheet.look(what), model.look(what));
                break;
            case 1:
                int fact = number(27);
                due("of(" + i + ", " + fact + ")", sheet.of(i, fact), model.of(i, fact));
                due("of(" + i + ", 2)", sheet.of(i, 2), model.of(i, 2));
                break;
            case 2:
                due("pin(" + i + ", " + x + ", " + y + ")", sheet.pin(i, x, y), model.pin(i, x, y));
                break;
            case 3:
                int j = shapeNumber();
                due("far(" + i + ", " + j + ")", sheet.far(i, j), model.far(i, j));
                break;
            case 4:
                int bound = random.nextBoolean() ? random.nextInt(7) : number(32);
                due("simple(" + i + ", " + bound + ", 0)", sheet.simple(i, bound, 0), model.simple(i, bound, 0));
                due("simple(" + i + ", " + bound + ", 1)", sheet.simple(i, bound, 1), model.simple(i, bound, 1));
                int odd = number(3);
                due("simple(" + i + ", " + bound + ", " + odd + ")",
                    sheet.simple(i, bound, odd), model.simple(i, bound, odd));
                break;
            case 5:
                due("kept()", sheet.kept(), model.kept());
                due("loss()", sheet.loss(), model.loss());
                break;
            case 6:
                due("sheets()", sheet.sheets(), model.sheets());
                due("sheet(" + i + ")", sheet.sheet(i), model.sheet(i));
                break;
            case 7:
                due("cost()", sheet.cost(), model.cost());
                due("texture(" + i + ")", sheet.texture(i), model.texture(i));
                break;
            case 8:
                int set = random.nextInt(8) == 0 ? number(4096) : random.nextInt(1 << model.look(0));
                due("print(" + set + ")", sheet.print(set), model.print(set));
                break;
            case 9:
                due("up(" + x + ", " + y + ")", sheet.up(x, y), model.up(x, y));
                break;
            default:
                due("things()", sheet.things(), model.things());
                int thing = number(Math.max(1, model.things()));
                int about = number(7);
                due("thing(" + thing + ", " + about + ")", sheet.thing(thing, about), model.thing(thing, about));
                break;
        }
    }
}
