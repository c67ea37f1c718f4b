import java.util.ArrayList;
import java.util.EnumMap;
import java.util.List;
import java.util.Map;
import java.util.function.Supplier;
import java.util.function.ToIntFunction;

/**
 * All that later calls can tell of an object. As an object may be called 512 times alone, it is made anew for
 * each part; so it can be asked by calls that change it, too (what MEETS, what is told APART, PRICES).
 */
final class Facts {
    private static final int SIDE = 24;
    private static final int SHAPES = 12;
    private static final Map<Start, List<String>> KNOWN = new EnumMap<>(Start.class);

    private final List<String> all = new ArrayList<>();
    private final Supplier<TouchSheet> made;

    private Facts(Supplier<TouchSheet> made) {
        this.made = made;
    }

    /** The call answers what it should, and nothing is done. */
    static void refused(String call, Start start, int want, ToIntFunction<TouchSheet> asked) {
        Due.due(call + " from " + start, asked.applyAsInt(start.make()), want);
        List<String> before = KNOWN.computeIfAbsent(start, s -> of(s::make));
        List<String> after = of(() -> {
            TouchSheet t = start.make();
            asked.applyAsInt(t);
            return t;
        });
        for (int k = 0; k < before.size(); k++) {
            boolean same = before.get(k).equals(after.get(k));
            Due.due(same ? "" : call + " from " + start + " has done something: " + before.get(k) + " became "
                + after.get(k), same, true);
        }
    }

    static List<String> of(Supplier<TouchSheet> made) {
        Facts facts = new Facts(made);
        facts.shapes();
        facts.pins();
        facts.simpler();
        facts.answers();
        facts.printed();
        facts.waiting();
        facts.told();
        facts.prices();
        return facts.all;
    }

    private void tell(String what, int answer) {
        all.add(what + " " + answer);
    }

    private void shapes() {
        TouchSheet t = made.get();
        for (int what = 0; what < 3; what++) {
            tell("look " + what, t.look(what));
        }
        for (int i = 0; i < SHAPES; i++) {
            shape(t, i);
        }
    }

    private void shape(TouchSheet t, int i) {
        StringBuilder row = new StringBuilder("of " + i + ":");
        for (int what = 0; what < 27; what++) {
            row.append(' ').append(t.of(i, what));
        }
        all.add(row.toString());
    }

    private void pins() {
        int shapes = made.get().look(0);
        for (int i = 0; i < shapes; i++) {
            int number = i;
            grid("pins of " + i, (t, x, y) -> t.pin(number, x, y));
        }
    }

    private interface Asked {
        int ask(TouchSheet t, int x, int y);
    }

    private void grid(String what, Asked asked) {
        TouchSheet t = made.get();
        for (int y = 0; y < SIDE; y++) {
            t = y == SIDE / 2 ? made.get() : t;
            StringBuilder row = new StringBuilder(what + " in row " + y + ":");
            for (int x = 0; x < SIDE; x++) {
                row.append(' ').append(asked.ask(t, x, y));
            }
            all.add(row.toString());
        }
    }

    private void simpler() {
        TouchSheet t = made.get();
        int[] bounds = {0, 1, 2, 5, 30};
        for (int i = 0; i < SHAPES; i++) {
            for (int bound : bounds) {
                tell("simple " + i + " by " + bound, t.simple(i, bound, 1));
            }
            for (int j = 0; j < SHAPES; j++) {
                tell("far of " + i + " and " + j, t.far(i, j));
            }
        }
    }

    /** By GAP as it is, for 0 can't be, and by each other one. */
    private void answers() {
        TouchSheet t = made.get();
        for (int gap = 0; gap <= 6; gap++) {
            t.gap(gap);
            tell("kept by gap " + gap, t.kept());
            tell("loss by gap " + gap, t.loss());
            tell("sheets by gap " + gap, t.sheets());
            for (int i = 0; i < SHAPES; i++) {
                tell("by gap " + gap + " sheet of " + i, t.sheet(i));
            }
        }
        tell("cost", t.cost());
        for (int i = 0; i < SHAPES; i++) {
            tell("texture of " + i, t.texture(i));
        }
    }

    private void printed() {
        grid("up", TouchSheet::up);
        TouchSheet t = made.get();
        tell("things", t.things());
        for (int i = 0; i < SHAPES; i++) {
            for (int what = 0; what < 6; what++) {
                tell("of thing " + i + " what " + what, t.thing(i, what));
            }
        }
    }

    private TouchSheet withoutShapes() {
        TouchSheet t = made.get();
        for (int i = 0; i < SHAPES; i++) {
            t.undo();
        }
        return t;
    }

    private void waiting() {
        TouchSheet t = withoutShapes();
        tell("line", t.line(1));
        shape(t, 0);
    }

    private void told() {
        TouchSheet t = made.get();
        for (int a = 0; a < SHAPES; a++) {
            for (int b = 0; b < a; b++) {
                tell("meet of " + a + " and " + b, t.meet(a, b, true) ? 1 : 0);
            }
        }
        for (int s = 0; s < 4; s++) {
            for (int u = 0; u < s; u++) {
                tell("apart of " + s + " and " + u, t.apart(s, u, true) ? 1 : 0);
            }
        }
    }

    /** With all others as dear as can be, one GROUND costs the PRICE asked for. */
    private void prices() {
        for (int texture = 0; texture < 4; texture++) {
            TouchSheet t = withoutShapes();
            t.ground(0, 0, 0, 0, 1);
            for (int other = 0; other < 4; other++) {
                if (other != texture) {
                    t.price(other, 99);
                }
            }
            tell("price of " + texture, t.cost());
        }
    }
}
