import java.lang.reflect.InvocationTargetException;
import java.lang.reflect.Method;
import java.lang.reflect.Modifier;
import java.util.ArrayList;
import java.util.List;
import java.util.Random;

/** Calls with any arguments in any state: none may throw, and the same calls give the same answers. */
public final class AnyArgumentsTest {
    private static final String[] TEXTS = {
        "size 8 8;wind 3 3;shoal 63 99 4;shoal 0 99 1;shoal 7 1 3;shoal 56 2 0;boat 0 20 0;boat 63 20 1;boat 7 0 2;boat 56 1 0;"
            + "boat 1 1 1;boat 2 2 2;deaf 5;coast 0 1 0 20 30;coast 1 20 5 0 1;",
        "size 2 2;shoal 3 99 4;boat 3 0 0;coast 0 1 0 20 30;", "", "shoal 0 1 0;", "boat 5 5 1;",
        "all 0 20;split 0 0;split 0 1;split 0 4;split 0 5;net 0 0;net 0 1;all 1 1;row 0 0;wait;claim 0 5 1;net 5 5;",
        "claim 0 0 1;split 0 0;net 0 0;net 0 1;row 0 0;row 0 3;", "row 5 3;",
        "said 0 99;said 99 99;said 0 0;ahead 0 1;ahead 2 0;ahead 1 2;", "said 5 5;",
        "said 0 9;said 0 9;said 0 9;said 0 9;said 0 9;said 0 9;said 0 9;said 0 9;said 0 9;ahead 8 0;ahead 0 8;ahead 7 1;",
        "size 9 9;", "wait", "\u00ff\u0000", "said 1 2;ahead 7 8;",
    };
    private static final int[] ODD = {Integer.MIN_VALUE, Integer.MAX_VALUE, Integer.MAX_VALUE - 1, -2, -1, 64, 100, 600};

    private AnyArgumentsTest() {
    }

    public static void main(String[] args) throws IllegalAccessException {
        Checks checks = new Checks();
        Random random = new Random(512L);
        List<Method> face = new ArrayList<>();
        for (Method m : ShoalClaims.class.getDeclaredMethods()) {
            if (Modifier.isPublic(m.getModifiers())) {
                face.add(m);
            }
        }
        face.sort((a, b) -> a.getName().compareTo(b.getName()));
        for (int round = 0; round < 150; round++) {
            checks.part("round " + round);
            ShoalClaims x = new ShoalClaims();
            ShoalClaims y = new ShoalClaims();
            for (int i = 0; i < 512; i++) {
                if (random.nextInt(8) == 0) {
                    String text = TEXTS[random.nextInt(TEXTS.length)];
                    x.end(0);
                    y.end(0);
                    Checks.put(x, text);
                    Checks.put(y, text);
                    int sort = random.nextInt(3);
                    int at = random.nextInt(4) - 1;
                    checks.due("text", x.text(sort, at), y.text(sort, at));
                }
                Method m = face.get(random.nextInt(face.size()));
                Object[] given = arguments(m, random);
                checks.due(m.getName(), call(m, x, given), call(m, y, given));
            }
        }
        checks.finish();
    }

    private static Object[] arguments(Method m, Random random) {
        Object[] given = new Object[m.getParameterCount()];
        boolean wild = random.nextInt(3) == 0;
        for (int i = 0; i < given.length; i++) {
            if (m.getParameterTypes()[i] == boolean.class) {
                given[i] = random.nextBoolean();
            } else if (wild) {
                given[i] = random.nextBoolean() ? ODD[random.nextInt(ODD.length)] : random.nextInt(80) - 4;
            } else {
                given[i] = i == 0 ? random.nextInt(2) : random.nextInt(random.nextInt(3) == 0 ? 31 : 4);
            }
        }
        return given;
    }

    private static int call(Method m, ShoalClaims x, Object[] given) throws IllegalAccessException {
        try {
            Object got = m.invoke(x, given);
            return got instanceof Boolean b ? (b ? 1 : 0) : (Integer) got;
        } catch (InvocationTargetException e) {
            throw new IllegalStateException(m.getName() + java.util.Arrays.toString(given), e.getCause());
        }
    }
}
