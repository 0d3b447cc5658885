import java.nio.charset.StandardCharsets;

/** What the tests share: telling texts, and counting answers that are not due. */
final class Checks {
    static final int SEA = 0;
    static final int DAY = 1;
    static final int DISPUTE = 2;

    private int wrong;
    private int asked;
    private String part = "";

    void part(String name) {
        part = name;
    }

    void due(String call, int got, int want) {
        asked++;
        if (got != want) {
            wrong++;
            System.out.println(part + ": " + call + " answered " + got + ", due is " + want);
        }
    }

    void due(String call, boolean got, boolean want) {
        due(call, got ? 1 : 0, want ? 1 : 0);
    }

    void finish() {
        System.out.println(asked + " answers, " + wrong + " not as due");
        if (wrong != 0) {
            System.exit(1);
        }
    }

    int wrong() {
        return wrong;
    }

    /** Puts a text on an empty tape. */
    static void put(ShoalClaims x, String text) {
        put(x, text.getBytes(StandardCharsets.ISO_8859_1));
    }

    static void put(ShoalClaims x, byte[] bytes) {
        for (int at = 0; at < bytes.length; at += 20) {
            int[] n = new int[5];
            for (int i = 0; i < 20; i++) {
                int b = at + i < bytes.length ? bytes[at + i] & 255 : 32;
                n[i / 4] = n[i / 4] << 8 | b;
            }
            x.feed(n[0], n[1], n[2], n[3], n[4]);
        }
        x.end(bytes.length);
    }

    static int tell(ShoalClaims x, int sort, int at, String text) {
        put(x, text);
        return x.text(sort, at);
    }
}
