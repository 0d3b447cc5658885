import java.io.IOException;
import java.lang.reflect.Field;
import java.lang.reflect.Method;
import java.lang.reflect.Modifier;
import java.nio.file.Files;
import java.nio.file.Path;
import java.util.Arrays;
import java.util.List;
import java.util.Set;
import java.util.TreeSet;
import java.util.regex.Matcher;
import java.util.regex.Pattern;

/** The face of the document, and those rules of LANGUAGE.md that can be looked up in the source. */
public final class FaceTest {
    private static final Checks checks = new Checks();
    private static final List<String> FACE = List.of(
        "int feed(int,int,int,int,int)", "int end(int)", "int text(int,int)", "int fault(int)", "int sea(int,int)",
        "int shoal(int,int,int)", "int boat(int,int,int)", "int far(int,int,int)", "int hears(int,int,int)", "int loud(int)",
        "int deed(int,int,int)", "int stop(int,int)", "int state(int,int,int,int,int)", "int has(int,int,int,int,int)",
        "int claimed(int,int,int,boolean)", "int shares(int,int,int,int)", "int twice(int,int)", "int soon(int,int,int,int)",
        "int berth(int,int,boolean)", "int pair(int,int,int,int)", "int dispute(int,int)", "int hours(int,int,boolean)",
        "int gulls(int,int,int,int,int)", "int lack(int,int,int,int,int)", "int least(int,int,int)", "int winds(int,int)",
        "int meet(int,int,int)", "int sum(int,int,int)", "int tells(int,int)", "int count(int)", "boolean image(int)",
        "boolean again(int)");

    private FaceTest() {
    }

    public static void main(String[] args) throws IOException {
        face();
        names();
        source();
        checks.finish();
    }

    private static String signature(Method m) {
        StringBuilder s = new StringBuilder(m.getReturnType().getName()).append(' ').append(m.getName()).append('(');
        for (Class<?> p : m.getParameterTypes()) {
            s.append(s.charAt(s.length() - 1) == '(' ? "" : ",").append(p.getName());
        }
        return s.append(')').toString();
    }

    private static void face() {
        checks.part("the face");
        Set<String> there = new TreeSet<>();
        for (Method m : ShoalClaims.class.getDeclaredMethods()) {
            if (Modifier.isPublic(m.getModifiers())) {
                there.add(signature(m));
            } else {
                checks.due("private: " + m, Modifier.isPrivate(m.getModifiers()), true);
            }
        }
        checks.due("the public methods " + there, there.equals(new TreeSet<>(FACE)), true);
        for (Field f : ShoalClaims.class.getDeclaredFields()) {
            boolean known = f.getName().equals("NONE") ? Modifier.isPublic(f.getModifiers()) : Modifier.isPrivate(f.getModifiers());
            checks.due("known or private: " + f, known, true);
            checks.due("final: " + f, Modifier.isFinal(f.getModifiers()), true);
        }
        checks.due("final class", Modifier.isFinal(ShoalClaims.class.getModifiers()), true);
        checks.due("one constructor", ShoalClaims.class.getDeclaredConstructors().length, 1);
    }

    private static void names() {
        checks.part("the classes inside");
        Set<String> publicNames = new TreeSet<>();
        FACE.forEach(f -> publicNames.add(f.split("[ (]")[1]));
        Class<?>[] inside = ShoalClaims.class.getDeclaredClasses();
        checks.due("at most twelve classes", inside.length + 1 <= 12, true);
        for (Class<?> c : inside) {
            checks.due("static: " + c, Modifier.isStatic(c.getModifiers()), true);
            long fields = Arrays.stream(c.getDeclaredFields()).filter(f -> !Modifier.isStatic(f.getModifiers())).count();
            checks.due("at most twenty fields: " + c, fields <= 20, true);
            for (Method m : c.getDeclaredMethods()) {
                checks.due("a name of its own: " + m, publicNames.contains(m.getName()), false);
                checks.due("at most seven parameters: " + m, m.getParameterCount() <= 7, true);
            }
            for (Field f : c.getDeclaredFields()) {
                boolean ok = !Modifier.isStatic(f.getModifiers()) || Modifier.isFinal(f.getModifiers());
                checks.due("no static state: " + f, ok, true);
            }
        }
    }

    private static void source() throws IOException {
        checks.part("the source");
        String all = Files.readString(Path.of("src/main/java/ShoalClaims.java"));
        for (char c : all.toCharArray()) {
            checks.due("sign " + (int) c, c < 127, true);
        }
        String code = all.replaceAll("(?s)/\\*.*?\\*/", "").replaceAll("//[^\n]*", "").replaceAll("\"[^\"\n]*\"", "\"\"");
        String[] banned = {"throw", "throws", "try", "catch", "synchronized", "assert", "package", "HashMap", "Object", "equals",
            "hashCode", "toString", "\\w+Exact", "System\\.(?!arraycopy)\\w+", "Math\\.(?!max|min|abs)\\w+", "Thread", "Random"};
        for (String b : banned) {
            Matcher m = Pattern.compile("\\b" + b + "\\b").matcher(code);
            checks.due("has " + b, m.find(), false);
        }
        checks.due("no lambda", code.contains("->") || code.contains("::"), false);
        Matcher imports = Pattern.compile("import ([^;]+);").matcher(code);
        while (imports.find()) {
            checks.due("import " + imports.group(1), imports.group(1).equals("java.util.Arrays"), true);
        }
        methodsAreShort(all);
    }

    private static void methodsAreShort(String all) {
        int start = -1;
        String indent = "";
        String[] lines = all.split("\n");
        for (int i = 0; i < lines.length; i++) {
            Matcher open = Pattern.compile("^( {4}| {8})\\S[^=;]*\\) \\{$").matcher(lines[i]);
            if (open.find()) {
                start = i;
                indent = open.group(1);
            } else if (start >= 0 && lines[i].equals(indent + "}")) {
                checks.due("at most sixty lines from line " + (start + 1), i - start < 60, true);
                start = -1;
            }
        }
    }
}
