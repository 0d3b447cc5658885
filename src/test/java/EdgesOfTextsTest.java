/** The boundary cases of the tape, texts, FAULTS, counts and images: "Terms" 1, promises 1 to 5 and 31 to 33. */
public final class EdgesOfTextsTest {
    private static final Checks checks = new Checks();
    private static final int NONE = ShoalClaims.NONE;
    private static final int FOUR_BLANKS = 0x20202020;
    /** What goes ahead of a line so that its CELLS, BOATS and SAYINGS are there: a text of each sort. */
    private static final String[] AHEAD_OF_LINES = {
        "size 8 8;", "", "said 0 9;said 0 9;said 0 9;said 0 9;said 0 9;said 0 9;said 0 9;said 0 9;"};
    private static final String[][] WORDS = {
        {"size", "wind", "nets", "coast", "shoal", "boat", "deaf"},
        {"row", "claim", "all", "split", "net", "wait"},
        {"said", "ahead"}};

    private EdgesOfTextsTest() {
    }

    public static void main(String[] args) {
        newObject();
        feedOrder();
        feedUpTo600();
        end();
        tapeIsTaken();
        placesForTexts();
        faultyTextsChangeNothing();
        faultAnswers();
        seaNumbers();
        dayNumbers();
        disputeNumbers();
        storedBounds();
        laterOnesStrike();
        furtherOnes();
        everyByteAsAToken();
        everyByteBetween();
        tokensAsLongAsTheyGo();
        linesBrokenOff();
        wrongTokens();
        wordsOfOtherSorts();
        firstFaultByPlace();
        oneTooMany();
        thingsNotThere();
        longestTexts();
        counts();
        images();
        imagesHoldAll();
        all512Calls();
        checks.finish();
    }

    private static void newObject() {
        checks.sentence("Promise 1", "No SEAS, DAYS, DISPUTES; no images.");
        ShoalClaims x = new ShoalClaims();
        checks.row("count", x::count, 0, 0, 0, -2);
        checks.row("again", k -> x.again(k) ? 1 : 0, 0, 0, 0, 0);
        checks.due("sea", x.sea(0, 0), NONE);
        checks.due("shoal", x.shoal(0, 0, 0), NONE);
        checks.due("boat", x.boat(0, 0, 0), NONE);
        checks.due("far", x.far(0, 0, 0), NONE);
        checks.due("hears", x.hears(0, 0, 1), NONE);
        checks.due("loud", x.loud(0), NONE);
        checks.due("deed", x.deed(0, NONE, 0), -2);
        checks.due("stop", x.stop(0, 0), NONE);
        checks.due("state", x.state(0, 0, 0, 0, 0), -2);
        checks.due("has", x.has(0, 0, 0, 0, 0), -2);
        checks.due("claimed", x.claimed(0, 0, 0, true), NONE);
        checks.due("shares", x.shares(0, 0, 0, 0), -2);
        checks.due("twice", x.twice(0, 0), NONE);
        checks.due("soon", x.soon(0, 0, 0, 0), NONE);
        checks.due("berth", x.berth(0, 0, true), NONE);
        checks.due("pair", x.pair(0, 0, 1, 0), NONE);
        checks.due("dispute", x.dispute(0, 0), -2);
        checks.due("hours", x.hours(0, 0, true), NONE);
        checks.due("gulls", x.gulls(0, 0, 0, 0, 0), NONE);
        checks.due("lack", x.lack(0, 0, 0, 0, 0), NONE);
        checks.due("least", x.least(0, 0, 0), NONE);
        checks.due("winds", x.winds(0, 0), NONE);
        checks.due("meet", x.meet(0, 0, 1), NONE);
        checks.due("sum", x.sum(0, 0, 0), -2);
        checks.due("tells", x.tells(0, 0), NONE);
        checks.due("the tape is empty", x.end(1), NONE);
        checks.due("no FAULT", x.fault(0), 0);
        checks.due("no place", x.fault(1), NONE);
    }

    private static void feedOrder() {
        checks.sentence("Promise 2", "twenty bytes come behind it, of each number the highest first");
        for (int at = 0; at < 20; at++) {
            for (int sign : new int[] {'?', 0, 128, 255}) {
                int[] n = {FOUR_BLANKS, FOUR_BLANKS, FOUR_BLANKS, FOUR_BLANKS, FOUR_BLANKS};
                int shift = 24 - at % 4 * 8;
                n[at / 4] = n[at / 4] & ~(255 << shift) | sign << shift;
                ShoalClaims x = new ShoalClaims();
                checks.due("feed", x.feed(n[0], n[1], n[2], n[3], n[4]), 20);
                checks.due("text", x.text(Checks.DAY, NONE), NONE);
                checks.due("the place of byte " + at, x.fault(1), at);
            }
        }
    }

    private static int feedBlanks(ShoalClaims x) {
        return x.feed(FOUR_BLANKS, FOUR_BLANKS, FOUR_BLANKS, FOUR_BLANKS, FOUR_BLANKS);
    }

    private static void feedUpTo600() {
        checks.sentence("Promise 2", "NONE, and nothing comes, if there would be more than 600");
        for (int length = 579; length <= 600; length++) {
            ShoalClaims x = new ShoalClaims();
            for (int i = 1; i <= 30; i++) {
                checks.due("feed", feedBlanks(x), 20 * i);
            }
            checks.due("end", x.end(length), length);
            boolean fits = length <= 580;
            checks.due("feed behind " + length, x.feed('?', 0, 0, 0, 0), fits ? length + 20 : NONE);
            checks.due("feed behind it", feedBlanks(x), NONE);
            checks.due("one more than it has", x.end(fits ? length + 21 : length + 1), NONE);
            checks.due("text", x.text(Checks.DAY, NONE), fits ? NONE : 0);
            checks.due("the place of what came", x.fault(1), fits ? length : NONE);
        }
    }

    private static void end() {
        checks.sentence("Promise 3", "NONE if it has not so many, or n is below 0.");
        ShoalClaims x = new ShoalClaims();
        checks.same("end of an empty tape", NONE, x::end, 1, -1, 20);
        checks.due("end(0) of an empty tape", x.end(0), 0);
        Checks.put(x, "wait;wait;?");
        checks.same("end", NONE, x::end, 12, 20, -1, -2, 600);
        checks.due("a refused end changes nothing", x.end(11), 11);
        checks.sentence("Promise 3", "The tape has its first n bytes alone: n.");
        checks.due("end(10)", x.end(10), 10);
        checks.due("the 11th is gone", x.end(11), NONE);
        checks.due("what comes is behind the 10th", feedBlanks(x), 30);
        checks.due("text", x.text(Checks.DAY, NONE), 0);
        checks.due("two waits", x.deed(0, NONE, 0), 2);
        Checks.put(x, "?");
        checks.due("end(0)", x.end(0), 0);
        checks.due("end(1)", x.end(1), NONE);
        checks.due("an empty text", x.text(Checks.DAY, NONE), 1);
    }

    private static void tapeIsTaken() {
        checks.sentence("Promise 4", "The tape is taken (and is empty then)");
        ShoalClaims x = new ShoalClaims();
        int[][] calls = {{0, NONE, 0}, {0, 0, 0}, {1, NONE, NONE}, {0, 1, -2}, {0, -2, -2}, {3, NONE, -2}, {-1, NONE, -2}};
        for (int[] call : calls) {
            Checks.put(x, "nets 3;");
            checks.due("text(" + call[0] + ", " + call[1] + ")", x.text(call[0], call[1]), call[2]);
            checks.due("end(1) behind it", x.end(1), NONE);
            checks.due("feed behind it", feedBlanks(x), 20);
            x.end(0);
        }
    }

    private static void placesForTexts() {
        checks.sentence("Terms 1", "SEAS, at most 2 (sort 0), DAYS, at most 2 (1), DISPUTES, at most 2 (2), from 0 on.");
        for (int sort = 0; sort < 3; sort++) {
            int s = sort;
            String t = sort == Checks.DISPUTE ? "said 0 0;" : "";
            ShoalClaims x = new ShoalClaims();
            for (int there = 0; there <= 2; there++) {
                int n = there;
                checks.sentence("Promise 4", "-2: there is none such, there are as many as may be, or no such sort");
                checks.same("in the place of one", -2, at -> Checks.tell(x, s, at, t), n, n + 1, -2, -3);
                for (int at = 0; at < n; at++) {
                    checks.due("in the place of " + at, Checks.tell(x, s, at, t), at);
                }
                checks.due("how many", x.count(s), n);
                checks.due("a further one", Checks.tell(x, s, NONE, t), n < 2 ? n : -2);
            }
            checks.due("as many as may be", x.count(s), 2);
        }
        checks.sentence("Promise 4", "no text is read then, FAULT 0");
        ShoalClaims y = new ShoalClaims();
        checks.same("no such sort", -2, sort -> textWithoutSort(y, sort, NONE), -1, -2, 3, 4);
        checks.same("no such sort, at 0", -2, sort -> textWithoutSort(y, sort, 0), -1, 3);
        checks.row("nothing is told", y::count, 0, 0, 0);
    }

    private static int textWithoutSort(ShoalClaims x, int sort, int at) {
        checks.due("a FAULT ahead of it", Checks.tell(x, Checks.DAY, NONE, "?"), NONE);
        Checks.put(x, "?");
        int answer = x.text(sort, at);
        checks.due("FAULT", x.fault(0), 0);
        checks.due("its place", x.fault(1), NONE);
        return answer;
    }

    private static void faultyTextsChangeNothing() {
        checks.sentence("Promise 4", "NONE: a FAULT.");
        ShoalClaims x = checks.told("nets 9;shoal 3 5 4;boat 4 4 1;deaf 0;", "claim 0 0 7;");
        Checks.tell(x, Checks.DISPUTE, NONE, "said 3 4;said 5 6;ahead 1 0;");
        String[][] faulty = {
            {"nets 1;nets", "nets 1;nets 0;", "shoal 1 1 1;".repeat(5), "deaf 1;"},
            {"wait;wait", "row 0 4;", "wait;".repeat(31)},
            {"said 0 0;said", "said 1 0;", "said 0 0;".repeat(10), ""}};
        for (int sort = 0; sort < 3; sort++) {
            for (String t : faulty[sort]) {
                checks.due("in the place: [" + t + "]", Checks.tell(x, sort, 0, t), NONE);
                checks.due("a further one: [" + t + "]", Checks.tell(x, sort, NONE, t), NONE);
            }
        }
        checks.row("how many", x::count, 1, 1, 1);
        checks.row("the sea", what -> x.sea(0, what), 6, 6, 0, 0, 9, 1, 1);
        checks.row("the shoal", what -> x.shoal(0, 0, what), 3, 5, 4);
        checks.row("the boat", what -> x.boat(0, 0, what), 4, 4, 1, 1);
        checks.row("the deed", what -> x.deed(0, 0, what), 1, 0, 0, 7);
        checks.row("the dispute", what -> x.dispute(0, what), 2, 1);
        checks.due("FROM", x.dispute(0, 21), 5);
        checks.due("a further one behind faulty ones", Checks.tell(x, Checks.SEA, NONE, ""), 1);
        checks.row("is as at first", what -> x.sea(1, what), 6, 6, 0, 0, 4, 0, 0);
    }

    private static void faultAnswers() {
        checks.sentence("Promise 5", "what 0: the FAULT, 0 without, 1: its place, NONE without. NONE for another what.");
        ShoalClaims x = new ShoalClaims();
        checks.row("without a text", x::fault, 0, NONE, NONE);
        Checks.tell(x, Checks.SEA, NONE, "nets 0;");
        checks.row("a FAULT", x::fault, 2, 5, NONE);
        checks.same("another what", NONE, x::fault, -1, 2, 3, 4);
        checks.sentence("Promise 5", "Of the latest text()");
        feedBlanks(x);
        x.end(3);
        checks.row("the tape changes nothing", x::fault, 2, 5);
        x.end(0);
        Checks.tell(x, Checks.SEA, NONE, "nets");
        checks.row("another FAULT", x::fault, 1, 4);
        Checks.tell(x, Checks.SEA, NONE, "nets 1;");
        checks.row("none any more", x::fault, 0, NONE, NONE);
    }

    /** A text alone in a new object has this FAULT in this place. */
    private static void faulty(int sort, String t, int fault, int place) {
        ShoalClaims x = new ShoalClaims();
        checks.due("text(" + sort + ", NONE) of [" + t + "]", Checks.tell(x, sort, NONE, t), fault == 0 ? 0 : NONE);
        checks.due("fault(0) of [" + t + "]", x.fault(0), fault);
        checks.due("fault(1) of [" + t + "]", x.fault(1), place);
    }

    private static void fine(int sort, String t) {
        faulty(sort, t, 0, NONE);
    }

    /** A line with # where the NUMBER comes: all from least to most can be, of one or two digits, and no others. */
    private static void bounds(int sort, String words, String line, int least, int most) {
        checks.sentence("Terms 1", words);
        String ahead = AHEAD_OF_LINES[sort];
        int place = ahead.length() + line.indexOf('#');
        for (int n = 0; n <= 99; n++) {
            boolean fits = n >= least && n <= most;
            faulty(sort, ahead + line.replace("#", "" + n), fits ? 0 : 2, fits ? NONE : place);
            if (n < 10) {
                faulty(sort, ahead + line.replace("#", "0" + n), fits ? 0 : 2, fits ? NONE : place);
            }
        }
        checks.sentence("Terms 1", "NUMBERS, 1 or 2 digits");
        faulty(sort, ahead + line.replace("#", "100"), 1, place);
        faulty(sort, ahead + line.replace("#", "00" + least), 1, place);
    }

    /** Each NUMBER of a line, with the sentence that bounds it: 2 a NUMBER that can't be (as above). */
    private static void seaNumbers() {
        bounds(0, "A SEA has W columns and H rows, 2 .. 8", "size # 8;", 2, 8);
        bounds(0, "A SEA has W columns and H rows, 2 .. 8", "size 8 #;", 2, 8);
        bounds(0, "a WIND: a side (0 north, 1 east, 2 south, 3 west) to which it blows", "wind # 1;", 0, 3);
        bounds(0, "its STRENGTH, 0 .. 3", "wind 1 #;", 0, 3);
        bounds(0, "NETS, 1 .. 9 (4)", "nets #;", 1, 9);
        bounds(0, "of COASTS 0 .. 2 a law", "coast # 1 1 1 1;", 0, 2);
        bounds(0, "SYLLABLES, 1 .. 20", "coast 1 # 1 1 1;", 1, 20);
        bounds(0, "WITNESSES, 0 .. 5", "coast 1 1 # 1 1;", 0, 5);
        bounds(0, "NEAR, 0 .. 20", "coast 1 1 1 # 1;", 0, 20);
        bounds(0, "HOLD, 1 .. 30", "coast 1 1 1 1 #;", 1, 30);
        bounds(0, "CELLS are 0 .. 63", "shoal # 1 1;", 0, 63);
        bounds(0, "FISH, 1 .. 99", "shoal 1 # 1;", 1, 99);
        bounds(0, "a DRIFT: a side, or 4: none", "shoal 1 1 #;", 0, 4);
        bounds(0, "CELLS are 0 .. 63", "boat # 1 1;", 0, 63);
        bounds(0, "a VOICE, 0 .. 20", "boat 1 # 1;", 0, 20);
        bounds(0, "of COASTS 0 .. 2 a law", "boat 1 1 #;", 0, 2);
        bounds(0, "BOATS 0 .. 5", "boat 0 0 0;boat 0 0 0;boat 0 0 0;boat 0 0 0;boat 0 0 0;boat 0 0 0;deaf #;", 0, 5);
    }

    private static void dayNumbers() {
        bounds(1, "row: BOAT, side", "row # 0;", 0, 5);
        bounds(1, "row: BOAT, side", "row 0 #;", 0, 3);
        bounds(1, "claim: BOAT, SHOAL, syllables, 1 .. 20", "claim # 0 1;", 0, 5);
        bounds(1, "claim: BOAT, SHOAL, syllables, 1 .. 20", "claim 0 # 1;", 0, 5);
        bounds(1, "claim: BOAT, SHOAL, syllables, 1 .. 20", "claim 0 0 #;", 1, 20);
        bounds(1, "all: BOAT, syllables", "all # 1;", 0, 5);
        bounds(1, "all: BOAT, syllables", "all 0 #;", 1, 20);
        bounds(1, "BOATS 0 .. 5", "split # 0;", 0, 5);
        bounds(1, "SHOALS are 0 .. 5", "split 0 #;", 0, 5);
        bounds(1, "BOATS 0 .. 5", "net # 0;", 0, 5);
        bounds(1, "SHOALS are 0 .. 5", "net 0 #;", 0, 5);
    }

    private static void disputeNumbers() {
        bounds(2, "each with an hour FROM, an hour TO, 0 .. 99, not ahead of it", "said # 99;", 0, 99);
        bounds(2, "each with an hour FROM, an hour TO, 0 .. 99, not ahead of it", "said 0 #;", 0, 99);
        bounds(2, "a SAYING, 0 .. 8, that was ahead of another one", "said 0 9;ahead 0 #;", 1, 8);
        checks.sentence("Terms 1", "ahead: a SAYING, 0 .. 8, that was ahead of another one");
        for (int n = 0; n <= 99; n++) {
            String line = "ahead " + n + (n == 8 ? " 7;" : " 8;");
            faulty(2, "said 0 9;".repeat(9) + line, n <= 8 ? 0 : 2, n <= 8 ? NONE : 87);
        }
        checks.sentence("Terms 1", "TO ahead of FROM");
        faulty(2, "said 50 49;", 2, 8);
        fine(2, "said 50 50;");
        fine(2, "said 50 51;");
        faulty(2, "said 99 0;", 2, 8);
        fine(2, "said 0 0;");
        fine(2, "said 99 99;");
        checks.sentence("Terms 1", "the second SAYING of ahead, if it is the first");
        String two = "said 0 9;said 0 9;";
        faulty(2, two + "ahead 0 0;", 2, 26);
        faulty(2, two + "ahead 1 1;", 2, 26);
        faulty(2, two + "ahead 1 01;", 2, 26);
        fine(2, two + "ahead 1 0;");
        faulty(2, two + "ahead 8 8;", 2, 26);
        faulty(2, two + "ahead 9 9;", 2, 24);
    }

    private static void storedBounds() {
        checks.sentence("Terms 1", "A SEA has W columns and H rows, 2 .. 8 (6 and 6 at first)");
        ShoalClaims x = checks.told("");
        checks.row("at first", what -> x.sea(0, what),
            6, 6, 0, 0, 4, 0, 0, NONE, NONE, NONE, 3, 1, 4, 6, 3, 1, 4, 6, 3, 1, 4, 6, NONE);
        Checks.tell(x, Checks.SEA, 0, "size 2 2;wind 0 0;nets 1;coast 0 1 0 0 1;coast 1 1 0 0 1;coast 2 1 0 0 1;"
            + "shoal 0 1 0;boat 0 0 0;");
        checks.row("the least of all", what -> x.sea(0, what),
            2, 2, 0, 0, 1, 1, 1, NONE, NONE, NONE, 1, 0, 0, 1, 1, 0, 0, 1, 1, 0, 0, 1, NONE);
        checks.row("the least shoal", what -> x.shoal(0, 0, what), 0, 1, 0, NONE);
        checks.row("the least boat", what -> x.boat(0, 0, what), 0, 0, 0, 0, NONE);
        Checks.tell(x, Checks.SEA, 0, "size 8 8;wind 3 3;nets 9;coast 0 20 5 20 30;coast 1 20 5 20 30;coast 2 20 5 20 30;"
            + "shoal 63 99 4;".repeat(4) + "boat 63 20 2;".repeat(6) + "deaf 5;");
        checks.row("the most of all", what -> x.sea(0, what),
            8, 8, 3, 3, 9, 4, 6, NONE, NONE, NONE, 20, 5, 20, 30, 20, 5, 20, 30, 20, 5, 20, 30, NONE);
        checks.row("the most shoal", what -> x.shoal(0, 3, what), 63, 99, 4, NONE);
        checks.row("the most boat", what -> x.boat(0, 5, what), 63, 20, 2, 1, NONE);
        Checks.tell(x, Checks.SEA, 0, "size 02 08;nets 07;shoal 00 09 04;");
        checks.row("two digits", what -> x.sea(0, what), 2, 8, 0, 0, 7, 1, 0);
        checks.row("two digits", what -> x.shoal(0, 0, what), 0, 9, 4);
    }

    private static void laterOnesStrike() {
        checks.sentence("Terms 1", "Later ones strike");
        ShoalClaims x = checks.told("size 8 7;wind 1 2;nets 9;coast 1 9 4 9 9;coast 2 8 3 8 8;"
            + "size 3 4;wind 2 1;nets 2;coast 1 7 2 7 7;");
        checks.row("the later ones", what -> x.sea(0, what),
            3, 4, 2, 1, 2, 0, 0, NONE, NONE, NONE, 3, 1, 4, 6, 7, 2, 7, 7, 8, 3, 8, 8);
        checks.due("as at first again", Checks.tell(x, Checks.SEA, 0, ""), 0);
        checks.row("nothing of the one in whose place it came", what -> x.sea(0, what),
            6, 6, 0, 0, 4, 0, 0, NONE, NONE, NONE, 3, 1, 4, 6, 3, 1, 4, 6, 3, 1, 4, 6);
        fine(0, "shoal 63 1 1;boat 63 1 1;size 2 2;size 8 8;");
        faulty(0, "size 8 8;shoal 63 1 1;size 2 2;", 4, 31);
    }

    private static void furtherOnes() {
        checks.sentence("Terms 1", "but SHOALS, BOATS, DEAF ones, DEEDS, SAYINGS, AHEADS, which are further ones.");
        ShoalClaims x = checks.told("deaf 2;deaf 0;deaf 2;shoal 1 2 3;boat 4 5 2;shoal 1 2 3;boat 4 5 2;boat 6 7 0;", "wait;wait;");
        checks.due("shoals", x.sea(0, 5), 2);
        checks.due("boats", x.sea(0, 6), 3);
        checks.row("the second shoal", what -> x.shoal(0, 1, what), 1, 2, 3);
        checks.row("the third boat", what -> x.boat(0, 2, what), 6, 7, 0, 1);
        checks.row("deaf", b -> x.boat(0, b, 3), 1, 0, 1, NONE);
        checks.due("deeds", x.deed(0, NONE, 0), 2);
        Checks.tell(x, Checks.DISPUTE, NONE, "said 1 2;said 1 2;ahead 0 1;ahead 0 1;ahead 0 1;");
        checks.row("sayings, aheads", what -> x.dispute(0, what), 2, 3);
        Checks.tell(x, Checks.SEA, 0, "boat 0 0 0;");
        checks.due("not deaf any more", x.boat(0, 0, 3), 0);
    }

    private static boolean isBlank(int sign) {
        return sign == 10 || sign == 32;
    }

    private static boolean isLetter(int sign) {
        return sign >= 'a' && sign <= 'z';
    }

    private static boolean isDigit(int sign) {
        return sign >= '0' && sign <= '9';
    }

    private static String withSign(String ahead, int sign, String behind) {
        return ahead + (char) sign + behind;
    }

    private static void everyByteAsAToken() {
        checks.sentence("Terms 1", "1 the first byte or token with which no text goes on");
        for (int sign = 0; sign < 256; sign++) {
            boolean blank = isBlank(sign);
            faulty(1, withSign("", sign, ""), blank ? 0 : 1, blank ? NONE : 0);
            faulty(1, withSign("wait; ", sign, "wait;"), blank ? 0 : 1, blank ? NONE : 6);
        }
    }

    private static void everyByteBetween() {
        checks.sentence("Terms 1", "blanks (10, 32) between: words, rows of letters a .. z; NUMBERS, 1 or 2 digits; ; one byte.");
        for (int sign = 0; sign < 256; sign++) {
            boolean blank = isBlank(sign);
            int placeOfWait = isLetter(sign) ? 0 : sign == ';' ? 5 : 4;
            faulty(1, withSign("wait", sign, ";"), blank ? 0 : 1, blank ? NONE : placeOfWait);
            // a digit makes another NUMBER of it: 04 can be, 14 can't
            int fault = blank || sign == '0' ? 0 : isDigit(sign) ? 2 : 1;
            faulty(0, withSign("nets", sign, "4;"), fault, fault == 0 ? NONE : isLetter(sign) ? 0 : 4);
            faulty(0, withSign("nets 4", sign, ";"), blank ? 0 : isDigit(sign) ? 2 : 1,
                blank ? NONE : isDigit(sign) ? 5 : sign == ';' ? 7 : 6);
        }
    }

    private static void tokensAsLongAsTheyGo() {
        checks.sentence("Terms 1", "TOKENS, as long as they go");
        faulty(1, "waitwait;", 1, 0);
        faulty(1, "wai t;", 1, 0);
        faulty(0, "size88;", 1, 6);
        faulty(0, "size 8 8 8;", 1, 9);
        checks.sentence("Terms 1", "(a longer row of digits is no token)");
        faulty(0, "size 888;", 1, 5);
        faulty(0, "size 2 0000000002;", 1, 7);
        checks.sentence("Terms 1", "blanks (10, 32) between");
        fine(0, "size8 8;nets9;");
        fine(0, "\n\n size\n \n8\n8\n\n;\n");
        fine(1, "wait;wait;\nwait ; wait\n;");
        faulty(1, "wait;;", 1, 5);
        faulty(1, ";", 1, 0);
        faulty(0, "nets 1 0;", 1, 7);
    }

    private static final String[][] LINES = {
        {"size 8 8;", "wind 1 2;", "nets 4;", "coast 1 2 3 4 5;", "shoal 1 2 3;", "boat 0 1 2;", "boat 0 0 0;deaf 0;"},
        {"row 0 1;", "claim 0 1 2;", "all 0 1;", "split 0 1;", "net 0 1;", "wait;"},
        {"said 1 2;", "said 0 9;said 0 9;ahead 0 1;"}};

    private static void linesBrokenOff() {
        checks.sentence("Terms 1", "FAULTS of all, with places (a token's first byte; the end's)");
        for (int sort = 0; sort < 3; sort++) {
            for (String line : LINES[sort]) {
                fine(sort, line);
                String withBlanks = line.replace(";", " ;");
                int from = line.lastIndexOf(';', line.length() - 2) + 1;
                fine(sort, withBlanks);
                for (int length = from + 1; length < line.length(); length++) {
                    String cut = line.substring(0, length);
                    boolean inWord = isLetter(cut.charAt(length - 1)) && isLetter(line.charAt(length));
                    faulty(sort, cut, 1, inWord ? from : length);
                    faulty(sort, cut + " \n", 1, inWord ? from : length + 2);
                }
            }
        }
    }

    private static void wrongTokens() {
        checks.sentence("Terms 1", "1 the first byte or token with which no text goes on");
        for (int sort = 0; sort < 3; sort++) {
            for (String line : LINES[sort]) {
                int from = line.lastIndexOf(';', line.length() - 2) + 1;
                for (int at = from; at < line.length(); at++) {
                    char sign = line.charAt(at);
                    String behind = line.substring(at + 1);
                    if (isDigit(sign)) {
                        for (String other : new String[] {"x", ";", "-1", "123", "nets"}) {
                            faulty(sort, line.substring(0, at) + other + behind, 1, at);
                        }
                    } else if (sign == ';') {
                        faulty(sort, line.substring(0, at) + " 1" + behind, 1, at + 1);
                        faulty(sort, line.substring(0, at) + " x" + behind, 1, at + 1);
                        faulty(sort, line.substring(0, at) + "," + behind, 1, at);
                        faulty(sort, line + ";", 1, at + 1);
                    } else if (isLetter(sign)) {
                        // what goes ahead of the great letter is a shorter word, with which no text goes on either
                        faulty(sort, line.substring(0, at) + (char) (sign - 32) + behind, 1, from);
                    }
                }
            }
        }
    }

    private static void wordsOfOtherSorts() {
        checks.sentence("Terms 1", "A SEA's text: {(");
        for (int sort = 0; sort < 3; sort++) {
            for (int other = 0; other < 3; other++) {
                for (String word : WORDS[other]) {
                    if (other != sort) {
                        faulty(sort, AHEAD_OF_LINES[sort] + word + " 1 1;", 1, AHEAD_OF_LINES[sort].length());
                    }
                    faulty(sort, word.substring(1) + " 1 1;", 1, 0);
                    faulty(sort, word + "x 1 1;", 1, 0);
                    for (int i = 0; i < word.length(); i++) {
                        faulty(sort, word.substring(0, i) + 'x' + word.substring(i + 1) + " 1 1;", 1, 0);
                    }
                }
            }
        }
    }

    private static void firstFaultByPlace() {
        checks.sentence("Terms 1", "If there is none, the first by place, of one place the least");
        faulty(0, "nets 0;nets 10;", 2, 5);
        faulty(0, "nets 9;nets 10;nets 0;", 2, 12);
        faulty(0, "size 1 9;", 2, 5);
        faulty(0, "coast 3 0 6 21 0;", 2, 6);
        faulty(0, "coast 2 0 6 21 0;", 2, 8);
        faulty(0, "coast 2 1 6 21 0;", 2, 10);
        faulty(0, "coast 2 1 5 21 0;", 2, 12);
        faulty(0, "coast 2 1 5 20 0;", 2, 15);
        checks.sentence("Terms 1", "1 the first byte or token with which no text goes on");
        faulty(0, "nets 0;nets;", 1, 11);
        faulty(0, "nets 0;shoal 1 1 1;shoal 1 1 1;shoal 1 1 1;shoal 1 1 1;shoal 1 1 1;?", 1, 67);
        faulty(1, "wait;".repeat(31) + "wait", 1, 159);
        faulty(0, "nets 0;?;?", 1, 7);
        faulty(0, "nets 0", 1, 6);
        faulty(0, "deaf 5;deaf", 1, 11);
        faulty(2, "said 1 0;ahead 3 3;nets 1;", 1, 19);
        checks.sentence("Terms 1", "a line with such a NUMBER tells its SHOAL, BOAT, DEED, SAYING, AHEAD all the same");
        faulty(0, "shoal 1 0 1;".repeat(5), 2, 8);
        faulty(0, "shoal 1 1 1;".repeat(3) + "shoal 1 0 1;shoal 1 1 1;", 2, 44);
        faulty(0, "shoal 1 1 1;".repeat(4) + "shoal 1 0 1;", 3, 48);
        faulty(1, "row 9 9;".repeat(31), 2, 4);
        faulty(1, "wait;".repeat(29) + "row 0 4;wait;", 2, 151);
        faulty(1, "wait;".repeat(30) + "row 0 4;wait;", 3, 150);
        faulty(2, "said 0 9;".repeat(8) + "said 9 0;said 0 9;", 2, 79);
        faulty(2, "said 0 9;".repeat(9) + "said 9 0;", 3, 81);
    }

    private static void oneTooMany() {
        checks.sentence("Terms 1", "3 a 5th SHOAL, a 7th BOAT, a 31st DEED, a 10th SAYING, a 17th AHEAD, at its first token.");
        String[][] lines = {{"0", "", "shoal 0 1 0;", "4"}, {"0", "", "boat 0 0 0;", "6"}, {"1", "", "wait;", "30"},
            {"1", "", "row 0 0;", "30"}, {"1", "", "claim 0 0 1;", "30"}, {"1", "", "all 0 1;", "30"}, {"1", "", "split 0 0;", "30"},
            {"1", "", "net 0 0;", "30"}, {"2", "", "said 0 0;", "9"}, {"2", "said 0 0;said 0 0;", "ahead 0 1;", "16"}};
        for (String[] row : lines) {
            int sort = Integer.parseInt(row[0]);
            int most = Integer.parseInt(row[3]);
            for (int n = 1; n <= most + 2; n++) {
                int place = row[1].length() + most * row[2].length();
                faulty(sort, row[1] + row[2].repeat(n), n <= most ? 0 : 3, n <= most ? NONE : place);
            }
            int place = row[1].length() + most * row[2].length() + 2;
            faulty(sort, row[1] + row[2].repeat(most) + " \n" + row[2], 3, place);
        }
        fine(0, "deaf 0;".repeat(20) + "size 6 6;".repeat(20) + "boat 0 0 0;");
        checks.sentence("Terms 1", "the first by place");
        faulty(0, "boat 0 0 0;".repeat(7) + "shoal 0 1 0;".repeat(5), 3, 66);
        faulty(0, "shoal 0 1 0;".repeat(5) + "boat 0 0 0;".repeat(7), 3, 48);
        faulty(2, "said 0 0;".repeat(2) + "ahead 0 1;".repeat(17) + "said 0 0;".repeat(8), 3, 178);
    }

    private static void thingsNotThere() {
        checks.sentence("Terms 1", "4 of a SEA a CELL or a BOAT that was told of and is not there");
        for (int w = 2; w <= 8; w++) {
            for (int h = 2; h <= 8; h++) {
                String size = "size " + w + " " + h + ";";
                fine(0, size + "shoal " + (w * h - 1) + " 1 1;boat " + (w * h - 1) + " 1 1;");
                if (w * h < 64) {
                    String shoal = size + "shoal " + w * h + " 1 1;";
                    String boat = "boat " + w * h + " 1 1;" + size;
                    faulty(0, shoal, 4, shoal.length());
                    faulty(0, boat, 4, boat.length());
                }
            }
        }
        for (int boats = 0; boats <= 6; boats++) {
            for (int deaf = 0; deaf <= 5; deaf++) {
                String t = "deaf " + deaf + ";" + "boat 0 0 0;".repeat(boats);
                faulty(0, t, deaf < boats ? 0 : 4, deaf < boats ? NONE : t.length());
            }
        }
        faulty(0, "shoal 0 1 1;shoal 0 1 1;shoal 0 1 1;shoal 36 1 1;", 4, 49);
        faulty(0, "shoal 36 1 1;deaf 0; \n ", 4, 23);
        fine(1, "row 5 3;claim 5 5 20;net 5 5;");
        checks.sentence("Terms 1", "of a DISPUTE a SAYING that was told of and is not there, or none.");
        faulty(2, "", 4, 0);
        faulty(2, "\n \n", 4, 3);
        faulty(2, "ahead 0 1;", 4, 10);
        for (int sayings = 1; sayings <= 9; sayings++) {
            for (int told = 1; told <= 8; told++) {
                boolean there = told < sayings;
                String t = "ahead 0 " + told + ";" + "said 0 9;".repeat(sayings);
                faulty(2, t, there ? 0 : 4, there ? NONE : t.length());
                t = "said 0 9;".repeat(sayings) + "ahead " + told + " 0;";
                faulty(2, t, there ? 0 : 4, there ? NONE : t.length());
            }
        }
        checks.sentence("Terms 1", "If there is none of these, at the end's place");
        faulty(0, "deaf 0;nets 0;", 2, 12);
        faulty(0, "shoal 40 1 1;" + "shoal 0 1 1;".repeat(4), 3, 49);
        faulty(2, "ahead 0 9;", 2, 8);
    }

    private static void longestTexts() {
        checks.sentence("Terms 1", "THE TAPE has at most 600 bytes.");
        fine(1, " ".repeat(595) + "wait;");
        faulty(1, " ".repeat(596) + "wait", 1, 600);
        faulty(1, " ".repeat(599) + "?", 1, 599);
        faulty(1, "x".repeat(600), 1, 0);
        faulty(1, "1".repeat(600), 1, 0);
        fine(1, " ".repeat(600));
        faulty(2, "\n".repeat(600), 4, 600);
        faulty(0, "deaf 0;" + " ".repeat(593), 4, 600);
        faulty(0, "nets 4;".repeat(85) + "nets", 1, 599);
        fine(0, "nets 4;".repeat(85));
    }

    private static void counts() {
        checks.sentence("Promise 31", "How many there are of a sort. -2 for another one.");
        ShoalClaims x = new ShoalClaims();
        checks.same("another one", -2, x::count, -1, 3, 4, -2);
        for (int sort = 0; sort < 3; sort++) {
            String t = sort == Checks.DISPUTE ? "said 0 0;" : "";
            for (int n = 0; n < 4; n++) {
                checks.due("count(" + sort + ")", x.count(sort), Math.min(n, 2));
                Checks.tell(x, sort, NONE, "?");
                checks.due("a FAULT adds none", x.count(sort), Math.min(n, 2));
                Checks.tell(x, sort, NONE, t);
            }
        }
        checks.row("as many as may be", x::count, 2, 2, 2, -2);
    }

    private static int image(ShoalClaims x, int k) {
        return x.image(k) ? 1 : 0;
    }

    private static int again(ShoalClaims x, int k) {
        return x.again(k) ? 1 : 0;
    }

    private static void images() {
        checks.sentence("Promise 32", "Image k (0 .. 2) is all that is told");
        ShoalClaims x = checks.told("nets 7;");
        checks.same("image", 0, k -> image(x, k), -1, 3, 4, -2);
        checks.sentence("Promise 33", "true; false if there is none such.");
        checks.same("again", 0, k -> again(x, k), -1, 0, 1, 2, 3);
        for (int k = 0; k < 3; k++) {
            Checks.tell(x, Checks.SEA, 0, "nets " + (k + 1) + ";");
            checks.due("image(" + k + ")", x.image(k), true);
            for (int j = k + 1; j <= 3; j++) {
                checks.due("again(" + j + "), of which there is none", x.again(j), false);
            }
            checks.due("and nothing changes", x.sea(0, 4), k + 1);
        }
        checks.sentence("Promise 33", "All that is as image k has it");
        for (int k : new int[] {2, 0, 1, 1, 0, 2}) {
            checks.due("again(" + k + ")", x.again(k), true);
            checks.due("NETS", x.sea(0, 4), k + 1);
            checks.due("image(3)", x.image(3), false);
        }
        checks.sentence("Promise 32", "as it is now");
        Checks.tell(x, Checks.SEA, 0, "nets 9;");
        checks.due("image(1) anew", x.image(1), true);
        checks.row("again, and NETS", k -> x.again(k) ? x.sea(0, 4) : NONE, 1, 9, 3, NONE);
        ShoalClaims y = new ShoalClaims();
        checks.due("an image of nothing", y.image(0), true);
        Checks.tell(y, Checks.SEA, NONE, "");
        checks.due("again", y.again(0), true);
        checks.due("no SEAS", y.count(0), 0);
        checks.due("none such", y.sea(0, 0), NONE);
    }

    private static void imagesHoldAll() {
        checks.sentence("Promise 32", "all that is told (the tape, the FAULT, too)");
        ShoalClaims x = checks.told("nets 7;shoal 1 2 3;boat 1 2 1;deaf 0;", "claim 1 2 3;", "wait;");
        Checks.tell(x, Checks.DISPUTE, NONE, "said 1 2;said 3 4;ahead 1 0;");
        Checks.tell(x, Checks.SEA, NONE, "nets 0;");
        Checks.put(x, "wait;wait;wait");
        x.image(0);
        Checks.tell(x, Checks.SEA, 0, "size 2 2;shoal 3 99 4;shoal 3 98 4;boat 3 3 2;boat 3 3 2;");
        Checks.tell(x, Checks.SEA, NONE, "");
        Checks.tell(x, Checks.DAY, 0, "");
        Checks.tell(x, Checks.DAY, 1, "row 0 0;row 1 1;");
        Checks.tell(x, Checks.DISPUTE, 0, "said 9 9;");
        Checks.tell(x, Checks.DISPUTE, NONE, "said 8 8;");
        Checks.put(x, "?".repeat(77));
        checks.due("again(0)", x.again(0), true);
        checks.row("how many", x::count, 1, 2, 1, -2);
        checks.row("the FAULT", x::fault, 2, 5);
        checks.row("the sea", what -> x.sea(0, what), 6, 6, 0, 0, 7, 1, 1);
        checks.row("the shoal", what -> x.shoal(0, 0, what), 1, 2, 3);
        checks.row("the boat", what -> x.boat(0, 0, what), 1, 2, 1, 1);
        checks.row("a deed", what -> x.deed(0, 0, what), 1, 1, 2, 3);
        checks.due("the other day", x.deed(1, 0, 0), 5);
        checks.due("its deeds", x.deed(1, NONE, 0), 1);
        checks.row("the dispute", what -> x.dispute(0, what), 2, 1);
        checks.due("FROM", x.dispute(0, 21), 3);
        checks.due("the tape has 14 bytes", x.end(15), NONE);
        checks.due("the tape has 14 bytes", x.end(14), 14);
        x.feed(';' << 24 | 0x202020, FOUR_BLANKS, FOUR_BLANKS, FOUR_BLANKS, FOUR_BLANKS);
        checks.due("the tape's bytes", x.text(Checks.DAY, 0), 0);
        checks.due("the tape's bytes", x.deed(0, NONE, 0), 3);
        checks.due("the image stays", x.again(0), true);
        checks.due("the image stays", x.deed(0, NONE, 0), 1);
    }

    private static void all512Calls() {
        checks.sentence("What it is", "An object is used for at most 512 calls after it has been made");
        ShoalClaims x = new ShoalClaims();
        for (int i = 0; i < 128; i++) {
            checks.due("feed", feedBlanks(x), 20 * (i % 30 + 1));
            checks.due("image", x.image(i % 3), true);
            checks.due("end", x.end(20 * (i % 30 + 1)), 20 * (i % 30 + 1));
            boolean full = i % 30 == 29;
            checks.due("a text of blanks", full ? x.text(Checks.SEA, i < 30 ? NONE : 0) : x.count(Checks.DAY), 0);
        }
    }
}
