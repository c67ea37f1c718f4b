import java.io.IOException;
import java.lang.reflect.Constructor;
import java.lang.reflect.Field;
import java.lang.reflect.Method;
import java.lang.reflect.Modifier;
import java.nio.file.Files;
import java.nio.file.Path;
import java.util.Arrays;
import java.util.HashSet;
import java.util.Set;
import java.util.TreeSet;
import java.util.regex.Matcher;
import java.util.regex.Pattern;

/** The document's face, and the rules of LANGUAGE.md that can be seen by reading the program. */
public final class LanguageTest {
    private static final String[] FACE = {
        "int corner(int, int)", "int line(int)", "int ground(int, int, int, int, int)", "int mark(int, int, int)",
        "boolean undo()", "boolean gap(int)", "boolean meet(int, int, boolean)", "boolean apart(int, int, boolean)",
        "boolean price(int, int)", "int look(int)", "int of(int, int)", "int pin(int, int, int)", "int far(int, int)",
        "int simple(int, int, int)", "int simplify(int, int)", "int kept()", "int loss()", "int sheets()",
        "int sheet(int)", "int texture(int)", "int cost()", "int print(int)", "int up(int, int)", "int things()",
        "int thing(int, int)"};
    private static final String[] BANNED = {
        "throw", "try", "catch", "synchronized", "assert", "import", "package", "->", "::", "Exact",
        "System\\.(?!arraycopy)", "\\bObject\\b", "Thread", "Random", "hashCode", "toString", "static \\{"};
    private static final int MOST_LINES = 60;
    private static final int MOST_FIELDS = 20;
    private static final int MOST_CLASSES = 12;
    private static final int MOST_PARAMETERS = 7;

    public static void main(String[] args) throws IOException {
        face();
        members(TouchSheet.class);
        Class<?>[] inside = TouchSheet.class.getDeclaredClasses();
        Due.due("rule 11: few classes", inside.length + 1 <= MOST_CLASSES, true);
        for (Class<?> c : inside) {
            Due.due("rule 2: static " + c, Modifier.isStatic(c.getModifiers()), true);
            Due.due("rule 1: not for others " + c, Modifier.isPublic(c.getModifiers()), false);
            members(c);
        }
        words();
        Due.end();
    }

    private static void face() {
        Set<String> due = new TreeSet<>(Arrays.asList(FACE));
        Set<String> seen = new TreeSet<>();
        Set<String> names = new HashSet<>();
        for (Method m : TouchSheet.class.getDeclaredMethods()) {
            if (!Modifier.isPrivate(m.getModifiers())) {
                String parameters = Arrays.toString(m.getParameterTypes());
                seen.add(m.getReturnType() + " " + m.getName() + "(" + parameters.substring(1, parameters.length() - 1) + ")");
                names.add(m.getName());
                Due.due("rule 1: public " + m, Modifier.isPublic(m.getModifiers()), true);
            }
        }
        if (!seen.equals(due)) {
            System.out.println("seen " + seen);
        }
        Due.due("rule 1: the methods", seen.equals(due), true);
        for (Method m : TouchSheet.class.getDeclaredMethods()) {
            boolean hidden = Modifier.isPrivate(m.getModifiers());
            Due.due("rule 1: a private method bears " + m.getName(), hidden && names.contains(m.getName()), false);
        }
        Constructor<?>[] constructors = TouchSheet.class.getDeclaredConstructors();
        Due.due("rule 1: one constructor", constructors.length, 1);
        Due.due("rule 1: without parameters", constructors[0].getParameterCount(), 0);
        Due.due("rule 1: final", Modifier.isFinal(TouchSheet.class.getModifiers()), true);
        for (Field f : TouchSheet.class.getDeclaredFields()) {
            boolean isNone = f.getName().equals("NONE") && Modifier.isPublic(f.getModifiers());
            Due.due("rule 1: " + f.getName(), isNone || Modifier.isPrivate(f.getModifiers()), true);
        }
    }

    private static void members(Class<?> c) {
        int fields = 0;
        for (Field f : c.getDeclaredFields()) {
            boolean isStatic = Modifier.isStatic(f.getModifiers());
            fields += isStatic ? 0 : 1;
            Due.due("rule 5: " + f, isStatic && !Modifier.isFinal(f.getModifiers()), false);
        }
        Due.due("rule 11: fields of " + c, fields <= MOST_FIELDS, true);
        for (Method m : c.getDeclaredMethods()) {
            Due.due("rule 11: parameters of " + m, m.getParameterCount() <= MOST_PARAMETERS, true);
        }
    }

    private static void words() throws IOException {
        String text = Files.readString(Path.of("src/main/java/TouchSheet.java"));
        String code = text.replaceAll("(?s)/\\*.*?\\*/", "").replaceAll("//[^\n]*", "");
        for (String word : BANNED) {
            boolean isName = Character.isLetter(word.charAt(0)) && word.indexOf('\\') < 0 && !word.equals("Exact");
            Matcher found = Pattern.compile(isName ? "\\b" + word + "\\b" : word).matcher(code);
            Due.due("the program has '" + word + "'", found.find(), false);
        }
        int start = 0;
        String[] lines = text.split("\n");
        for (int n = 0; n < lines.length; n++) {
            if (lines[n].matches("( {4}| {8})[a-zA-Z].*\\) \\{")) {
                start = n;
            } else if (lines[n].matches("( {4}| {8})\\}")) {
                Due.due("rule 11: the method that ends in line " + (n + 1), n - start < MOST_LINES || start == 0, true);
                start = 0;
            }
        }
    }
}
