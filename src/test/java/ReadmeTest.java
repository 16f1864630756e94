import java.io.File;
import java.lang.reflect.Method;
import java.lang.reflect.Modifier;
import java.nio.file.Files;
import java.nio.file.Path;

/** What README.md says: the example's answers, a row for each method, each test. */
public final class ReadmeTest {
    public static void main(String[] args) throws Exception {
        String text = Files.readString(Path.of("README.md"));
        Check.test("README.md: the example", ReadmeTest::example);
        Check.test("README.md: each method has a row", () -> methods(text));
        Check.test("README.md: each test has a row", () -> tests(text));
        Check.end("ReadmeTest");
    }

    private static void example() {
        RangeHouse x = new RangeHouse();
        int me = x.caller();
        Check.due("me", me, 0);
        int count = x.call(me, 1, 5, 70L, 0L);
        Check.due("count", count, 0);
        deliver(x, 0, 0);
        deliver(x, 1, 1);
        Check.due("was", x.answer(me, count, 1), 0);
        Check.due("epoch", x.move(0, 1), 2);
        deliver(x, 2, 3);
        Check.due("at(0, 0, 0)", x.at(0, 0, 0), 2);
        Check.due("step(0)", x.step(0), 2);
        deliver(x, 4, 4);
        Check.due("at(1, 0, 0)", x.at(1, 0, 0), 4);
        deliver(x, 5, 5);
        Check.due("step(0)", x.step(0), 2);
        Check.due("at(0, 0, 0)", x.at(0, 0, 0), 3);
        deliver(x, 7, 4);
        Check.due("at(1, 0, 0)", x.at(1, 0, 0), 5);
        deliver(x, 8, 5);
        deliver(x, 9, 6);
        Check.due("status(6)", x.status(6), 1);
        deliver(x, 10, 7);
        Check.due("at(1, 0, 0)", x.at(1, 0, 0), 1);
        deliver(x, 11, 9);
        Check.due("at(0, 0, 0)", x.at(0, 0, 0), 0);
        deliver(x, 12, 8);
        deliver(x, 13, 10);
        Check.due("range(0, 6)", x.range(0, 6), 1);
        Check.due("row", x.row(1, 0, 5), 70);
    }

    private static void deliver(RangeHouse x, int letter, int kind) {
        Check.due("letter(" + letter + ", 0)", x.letter(letter, 0), kind);
        Check.due("deliver(" + letter + ")", x.deliver(letter), 1);
    }

    private static void methods(String text) {
        for (Method m : RangeHouse.class.getDeclaredMethods()) {
            if (Modifier.isPublic(m.getModifiers())) {
                Check.holds("a row of " + m.getName(), text.contains("| `" + m.getName() + "("));
            }
        }
    }

    private static void tests(String text) {
        String[] files = new File("src/test/java").list();
        Check.holds("there are tests", files != null && files.length > 0);
        for (String file : files) {
            if (file.endsWith("Test.java")) {
                String name = file.substring(0, file.length() - ".java".length());
                Check.holds("a row of " + name, text.contains("| " + name + " |"));
            }
        }
    }
}
