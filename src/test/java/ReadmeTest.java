import java.io.IOException;
import java.lang.reflect.Method;
import java.lang.reflect.Modifier;
import java.nio.file.Files;
import java.nio.file.Path;

/** README.md tells how to use the class: its example answers as it says, and it tells of every call. */
public final class ReadmeTest {
    private static String readme;

    public static void main(String[] args) throws IOException {
        readme = Files.readString(Path.of("README.md"));
        example();
        everyCall();
        Due.due("README.md tells how to run the tests", readme.contains("\n.ci/run\n"), true);
        Due.end();
    }

    private static void example() {
        TouchSheet t = new TouchSheet();
        says("t.corner(0, 0);", t.corner(0, 0), 1);
        says("t.corner(3, 1);", t.corner(3, 1), 2);
        says("t.corner(6, 0);", t.corner(6, 0), 3);
        int road = t.line(5);
        says("int road = t.line(5);  // shape 0", road, 0);
        int lake = t.ground(10, 0, 14, 4, 3);
        says("int lake = t.ground(10, 0, 14, 4, 3);  // shape 1", lake, 1);
        int inn = t.mark(8, 0, 2);
        says("int inn = t.mark(8, 0, 2);  // shape 2", inn, 2);
        says("t.kept();  // 3", t.kept(), 3);
        says("t.sheets();  // 2", t.sheets(), 2);
        says("t.sheet(inn);  // 1", t.sheet(inn), 1);
        says("t.simplify(road, 1);  // 2", t.simplify(road, 1), 2);
        says("t.print(t.kept());  // 23", t.print(t.kept()), 23);
        says("t.things();  // 2", t.things(), 2);
        says("t.thing(1, 3);  // 14", t.thing(1, 3), 14);
    }

    private static void says(String line, int got, int want) {
        String oneBlank = readme.replaceAll(" {2,}", " ");
        Due.due("README.md has '" + line + "'", oneBlank.contains("\n" + line.replaceAll(" {2,}", " ")), true);
        Due.due(line, got, want);
    }

    private static void everyCall() {
        for (Method m : TouchSheet.class.getDeclaredMethods()) {
            if (Modifier.isPublic(m.getModifiers())) {
                Due.due("README.md tells of " + m.getName(), readme.contains("`" + m.getName() + "("), true);
            }
        }
    }
}
