import java.lang.reflect.Constructor;
import java.lang.reflect.Field;
import java.lang.reflect.Method;
import java.lang.reflect.Modifier;
import java.nio.file.Files;
import java.nio.file.Path;
import java.util.regex.Matcher;
import java.util.regex.Pattern;

/** Words and forms that LANGUAGE.md leaves out, and the sizes that it sets, looked for in the class's text. */
public final class RulesTest {
    private static final Path CLASS = Path.of("src/main/java/RangeHouse.java");
    private static final String[] WITHOUT = {
        "throw", "throws", "try", "catch", "finally", "synchronized", "assert", "package", "protected",
        "hashCode", "toString", "System\\.(?!arraycopy)\\w+", "Math\\.\\w+Exact", "Thread", "Random",
        "java\\.(?!util\\.(ArrayList|Arrays);)\\w+", "->", "::", "\"", "@\\w+", "volatile", "native"};
    private static final String[] FACE = {
        "caller", "call", "again", "answer", "learn", "copy", "move", "undo", "split", "merge", "step", "deliver",
        "lose", "fall", "rise", "letter", "range", "at", "row", "weight", "plan", "order", "status"};

    public static void main(String[] args) throws Exception {
        String text = Files.readString(CLASS);
        String code = text.replaceAll("(?s)/\\*.*?\\*/", "").replaceAll("//[^\n]*", "");
        for (String word : WITHOUT) {
            String edge = Character.isLetter(word.charAt(0)) ? "\\b" : "";
            Check.holds("without " + word, !Pattern.compile(edge + word + edge).matcher(code).find());
        }
        for (char c : text.toCharArray()) {
            Check.holds("a plain character", c < 128);
        }
        noNameTwice(code);
        sizes(code);
        members(RangeHouse.class);
        for (Class<?> inside : RangeHouse.class.getDeclaredClasses()) {
            Check.holds("static " + inside, Modifier.isStatic(inside.getModifiers()));
            members(inside);
        }
        Check.end("RulesTest");
    }

    /** No other method bears the name of a public one. */
    private static void noNameTwice(String code) {
        for (String name : FACE) {
            Matcher made = Pattern.compile("\\b(?:int|long|boolean|void|[A-Z]\\w+)(?:\\[\\])? " + name + "\\([^)]*\\) \\{").matcher(code);
            int count = 0;
            while (made.find()) {
                count++;
            }
            Check.due("methods with the name " + name, count, 1);
        }
    }

    private static void sizes(String code) {
        String[] lines = code.split("\n");
        int classes = 0;
        int start = -1;
        String close = "";
        for (int i = 0; i < lines.length; i++) {
            String line = lines[i];
            if (line.matches("\\s*(public|private).*\\bclass\\b.*")) {
                classes++;
                Check.holds("final: " + line, line.contains("final class") && (classes == 1 || line.contains("static")));
            } else if (start < 0 && line.matches("(    |        )\\S.*\\) \\{") && !line.matches("\\s*(if|for|while|switch|\\}).*")) {
                start = i;
                close = line.replaceAll("\\S.*", "") + "}";
            } else if (start >= 0 && line.equals(close)) {
                Check.holds("a short method: " + lines[start], i - start < 60);
                start = -1;
            }
        }
        Check.holds("twelve classes at most: " + classes, classes <= 12);
    }

    /** Seven parameters at most, twenty fields at most, and no static state. */
    private static void members(Class<?> it) {
        int fields = 0;
        for (Field f : it.getDeclaredFields()) {
            boolean constant = Modifier.isStatic(f.getModifiers());
            Check.holds("final: " + f, !constant || Modifier.isFinal(f.getModifiers()));
            fields += constant ? 0 : 1;
        }
        Check.holds("twenty fields at most: " + it, fields <= 20);
        for (Method m : it.getDeclaredMethods()) {
            Check.holds("seven parameters at most: " + m, m.getParameterCount() <= 7);
        }
        for (Constructor<?> c : it.getDeclaredConstructors()) {
            Check.holds("seven parameters at most: " + c, c.getParameterCount() <= 7);
        }
    }
}
