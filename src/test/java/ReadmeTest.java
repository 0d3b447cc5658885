import java.io.IOException;
import java.lang.reflect.Method;
import java.lang.reflect.Modifier;
import java.nio.file.Files;
import java.nio.file.Path;
import java.util.ArrayList;
import java.util.List;
import java.util.Set;
import java.util.TreeSet;
import java.util.regex.Matcher;
import java.util.regex.Pattern;

/** README.md: each line of its examples answers as it says there, and each call of the face stands in both places. */
public final class ReadmeTest {
    private static final Checks checks = new Checks();
    private static final Pattern ASKED = Pattern.compile("x\\.(\\w+)\\((.*)\\); // (-?\\d+|true|false)\\b.*");
    private static final Pattern TOLD = Pattern.compile("tell\\(x, (\\d), \"([^\"]*)\"\\); // (-?\\d+)\\b.*");
    private static final Pattern MADE = Pattern.compile("(ShoalClaims )?x = new ShoalClaims\\(\\);");

    private static ShoalClaims x;
    private static final Set<String> called = new TreeSet<>();

    private ReadmeTest() {
    }

    public static void main(String[] args) throws IOException, ReflectiveOperationException {
        String page = Files.readString(Path.of("README.md"));
        checks.part("README.md");
        String itself = flat(Files.readString(Path.of("src/test/java/ReadmeTest.java")));
        List<String> blocks = javaBlocks(page);
        checks.due("examples", blocks.size() > 1, true);
        for (String block : blocks) {
            if (block.contains("static int tell(")) {
                checks.due("tell() stands here as there", itself.contains(flat(block)), true);
            } else {
                runBlock(block);
            }
        }
        eachCallStands(page);
        checks.finish();
    }

    /** Feeds a text to an empty tape, ends it, and takes it as a further one of a sort. */
    static int tell(ShoalClaims x, int sort, String text) {
        for (int at = 0; at < text.length(); at += 20) {
            int[] five = new int[5];
            for (int i = 0; i < 20; i++) {
                int sign = at + i < text.length() ? text.charAt(at + i) : ' ';
                five[i / 4] = five[i / 4] << 8 | sign;
            }
            x.feed(five[0], five[1], five[2], five[3], five[4]);
        }
        x.end(text.length());
        return x.text(sort, ShoalClaims.NONE);
    }

    private static String flat(String code) {
        return code.replaceAll("\\s+", " ").trim();
    }

    private static List<String> javaBlocks(String page) {
        List<String> blocks = new ArrayList<>();
        Matcher m = Pattern.compile("(?s)```java\n(.*?)```").matcher(page);
        while (m.find()) {
            blocks.add(m.group(1));
        }
        return blocks;
    }

    private static void runBlock(String block) throws ReflectiveOperationException {
        for (String line : block.split("\n")) {
            Matcher asked = ASKED.matcher(line);
            Matcher told = TOLD.matcher(line);
            if (MADE.matcher(line).matches()) {
                x = new ShoalClaims();
                called.add("ShoalClaims");
            } else if (told.matches()) {
                checks.due(line, tell(x, Integer.parseInt(told.group(1)), told.group(2)), Integer.parseInt(told.group(3)));
            } else {
                checks.due("an example: " + line, asked.matches(), true);
                if (asked.matches()) {
                    checks.due(line, String.valueOf(answer(asked.group(1), asked.group(2))).equals(asked.group(3)), true);
                }
            }
        }
    }

    private static Object answer(String name, String told) throws ReflectiveOperationException {
        String[] words = told.split(", ");
        for (Method m : ShoalClaims.class.getMethods()) {
            if (m.getName().equals(name) && m.getParameterCount() == words.length) {
                called.add(name);
                Object[] arguments = new Object[words.length];
                for (int i = 0; i < words.length; i++) {
                    arguments[i] = argument(words[i]);
                }
                return m.invoke(x, arguments);
            }
        }
        return "no such call";
    }

    private static Object argument(String word) {
        if (word.equals("true") || word.equals("false")) {
            return word.equals("true");
        }
        return word.equals("ShoalClaims.NONE") ? ShoalClaims.NONE : Integer.decode(word);
    }

    private static void eachCallStands(String page) {
        for (Method m : ShoalClaims.class.getDeclaredMethods()) {
            if (Modifier.isPublic(m.getModifiers())) {
                int howMany = m.getParameterCount();
                String words = "\\w+" + (howMany == 0 ? "" : "(, \\w+){" + (howMany - 1) + "}");
                Pattern row = Pattern.compile("(?m)^\\| `" + m.getName() + "\\(" + words + "\\)` \\|");
                checks.due("a row of " + m.getName(), row.matcher(page).find(), true);
                checks.due("an example of " + m.getName(), called.contains(m.getName()), true);
            }
        }
    }
}
