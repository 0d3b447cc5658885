import java.nio.charset.StandardCharsets;
import java.util.function.IntUnaryOperator;

/** What the tests share: telling texts, and counting answers that are not due. */
final class Checks {
    static final int SEA = 0;
    static final int DAY = 1;
    static final int DISPUTE = 2;

    private int wrong;
    private int asked;
    private String part = "";

    void part(String name) {
        part = name;
    }

    /** The tests behind it hold this sentence of the document. */
    void sentence(String where, String words) {
        part = where + " \"" + words + "\"";
    }

    void due(String call, int got, int want) {
        asked++;
        if (got != want) {
            wrong++;
            System.out.println(part + ": " + call + " answered " + got + ", due is " + want);
        }
    }

    void due(String call, boolean got, boolean want) {
        due(call, got ? 1 : 0, want ? 1 : 0);
    }

    /** A call answers the same for each of these numbers, and for those farthest from all that can be. */
    void same(String call, int want, IntUnaryOperator answer, int... numbers) {
        for (int n : numbers) {
            due(call + " of " + n, answer.applyAsInt(n), want);
        }
        due(call + " of the least int", answer.applyAsInt(Integer.MIN_VALUE), want);
        due(call + " of the greatest int", answer.applyAsInt(Integer.MAX_VALUE), want);
    }

    /** A call answers these for 0, 1, 2 .. */
    void row(String call, IntUnaryOperator answer, int... want) {
        for (int i = 0; i < want.length; i++) {
            due(call + " of " + i, answer.applyAsInt(i), want[i]);
        }
    }

    /** A new object with a SEA and DAYS on it. */
    ShoalClaims told(String sea, String... days) {
        ShoalClaims x = new ShoalClaims();
        due("telling [" + sea + "]", tell(x, SEA, ShoalClaims.NONE, sea), 0);
        for (int i = 0; i < days.length; i++) {
            due("telling [" + days[i] + "]", tell(x, DAY, ShoalClaims.NONE, days[i]), i);
        }
        return x;
    }

    /** A new object with a DISPUTE. */
    ShoalClaims disputed(String dispute) {
        ShoalClaims x = new ShoalClaims();
        due("telling [" + dispute + "]", tell(x, DISPUTE, ShoalClaims.NONE, dispute), 0);
        return x;
    }

    void finish() {
        System.out.println(asked + " answers, " + wrong + " not as due");
        if (wrong != 0) {
            System.exit(1);
        }
    }

    int wrong() {
        return wrong;
    }

    /** Puts a text on an empty tape. */
    static void put(ShoalClaims x, String text) {
        put(x, text.getBytes(StandardCharsets.ISO_8859_1));
    }

    static void put(ShoalClaims x, byte[] bytes) {
        for (int at = 0; at < bytes.length; at += 20) {
            int[] n = new int[5];
            for (int i = 0; i < 20; i++) {
                int b = at + i < bytes.length ? bytes[at + i] & 255 : 32;
                n[i / 4] = n[i / 4] << 8 | b;
            }
            x.feed(n[0], n[1], n[2], n[3], n[4]);
        }
        x.end(bytes.length);
    }

    static int tell(ShoalClaims x, int sort, int at, String text) {
        put(x, text);
        return x.text(sort, at);
    }
}
