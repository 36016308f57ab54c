import java.io.IOException;
import java.lang.reflect.Method;
import java.lang.reflect.Modifier;
import java.nio.file.Files;
import java.nio.file.Path;

/** README.md: its example answers what it says, and it tells of every call. */
public final class ReadmeTest {
    private static final Check CHECK = new Check();

    public static void main(String[] args) throws IOException {
        String readme = Files.readString(Path.of("README.md"));
        exampleAnswersAsTold();
        exampleIsTheOneTested(readme, Files.readString(Path.of("src/test/java/ReadmeTest.java")));
        everyCallIsTold(readme);
        CHECK.end();
    }

    private static void exampleAnswersAsTold() {
        MasterKeys plan = new MasterKeys(3, 2);
        int first = plan.key();
        int second = plan.key();
        int master = plan.key();
        int flat = plan.door();
        int cellar = plan.door();
        plan.must(first, flat, true);
        plan.must(second, flat, true);
        plan.must(master, flat, true);
        plan.must(master, cellar, true);
        int found = plan.run(200000);
        CHECK.due("found", found, 1);
        int middle = plan.cut(master, 1);
        CHECK.due("middle", middle, 1);
        CHECK.due("first key", Check.cuts(plan, first, 3), "000");
        CHECK.due("second key", Check.cuts(plan, second, 3), "001");
        CHECK.due("master key", Check.cuts(plan, master, 3), "010");
        boolean opens = plan.fits(first, cellar);
        CHECK.due("opens", opens, false);
        int later = plan.add(1 << flat);
        CHECK.due("later", later, 3);
        CHECK.due("later key", Check.cuts(plan, later, 3), "011");
        int none = plan.add(1 << flat);
        CHECK.due("none", none, MasterKeys.NONE);
        int heirs = plan.heirs(master);
        CHECK.due("heirs", heirs, 0);
    }

    /** The example's lines stand in this test in their order, so that the two cannot drift apart. */
    private static void exampleIsTheOneTested(String readme, String test) {
        String opening = "```java\n";
        int start = readme.indexOf(opening) + opening.length();
        int end = readme.indexOf("```", start);
        int at = 0;
        for (String line : readme.substring(start, end).split("\n")) {
            String code = line.replaceFirst(" *//.*", "").trim();
            int found = test.indexOf(code, at);
            CHECK.due("README.md's \"" + code + "\" is tested", found >= 0, true);
            at = Math.max(at, found);
        }
    }

    private static void everyCallIsTold(String readme) {
        for (Method method : MasterKeys.class.getDeclaredMethods()) {
            if (Modifier.isPublic(method.getModifiers())) {
                String name = method.getName();
                CHECK.due("README.md tells of " + name + "()", readme.contains("| `" + name + "("), true);
            }
        }
    }
}
