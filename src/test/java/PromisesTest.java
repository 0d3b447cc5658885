/** The promises one by one, with answers found by hand from the document. */
public final class PromisesTest {
    private static final Checks checks = new Checks();
    private static final int NONE = ShoalClaims.NONE;

    /**
     * Four columns, three rows; the wind blows east with strength 2.
     * BOAT 0 in CELL 4 is heard by BOAT 1 in CELL 6; BOAT 2 in CELL 11 is deaf.
     */
    private static final String SEA = "size 4 3;wind 1 2;coast 0 3 1 4 6;coast 1 2 0 2 3;"
        + "shoal 5 9 1;shoal 10 20 4;boat 4 3 0;boat 6 2 1;boat 11 9 0;deaf 2;";
    /** STOP is 7: SHOAL 2 has drifted to CELL 4, BOAT 0 is in CELL 5. */
    private static final String DAY = "claim 0 0 3;claim 1 0 2;all 1 2;split 0 0;row 0 1;row 1 2;net 1 1;net 0 2;net 2 0;";
    private static final String SHARED_DAY = "claim 0 1 6;row 1 2;net 1 1;";
    private static final String DISPUTE = "said 0 5;said 2 3;said 1 9;ahead 1 0;ahead 0 2;";

    private PromisesTest() {
    }

    public static void main(String[] args) {
        newObject();
        feed();
        end();
        text();
        fault();
        sea();
        shoal();
        boat();
        far();
        hears();
        loud();
        deed();
        stop();
        state();
        has();
        claimed();
        shares();
        twice();
        soon();
        berth();
        pair();
        dispute();
        hours();
        gulls();
        lack();
        least();
        winds();
        meet();
        sum();
        tells();
        count();
        image();
        again();
        checks.finish();
    }

    private static ShoalClaims told(String... texts) {
        ShoalClaims x = new ShoalClaims();
        for (String t : texts) {
            int sort = t.startsWith("said") ? Checks.DISPUTE : t.matches("(?s)(row|claim|all|split|net |wait).*") ? Checks.DAY : Checks.SEA;
            int number = Checks.tell(x, sort, NONE, t);
            checks.due("telling [" + t + "] fails", number < 0, false);
        }
        return x;
    }

    private static void newObject() {
        checks.part("promise 1");
        ShoalClaims x = new ShoalClaims();
        checks.due("NONE", NONE, -1);
        for (int sort = 0; sort < 3; sort++) {
            checks.due("count", x.count(sort), 0);
        }
        for (int k = 0; k < 3; k++) {
            checks.due("again", x.again(k), false);
        }
        checks.due("end(0)", x.end(0), 0);
        checks.due("end(1)", x.end(1), NONE);
        checks.due("fault(0)", x.fault(0), 0);
        checks.due("fault(1)", x.fault(1), NONE);
        checks.due("sea", x.sea(0, 0), NONE);
        checks.due("deed", x.deed(0, NONE, 0), -2);
        checks.due("dispute", x.dispute(0, 0), -2);
        checks.due("stop", x.stop(0, 0), NONE);
    }

    private static void feed() {
        checks.part("promise 2");
        ShoalClaims x = new ShoalClaims();
        for (int i = 1; i <= 30; i++) {
            checks.due("feed", x.feed(0x77616974, 0x3b202020, 0x20202020, 0x20202020, 0x20202020), 20 * i);
        }
        checks.due("feed beyond 600", x.feed(0, 0, 0, 0, 0), NONE);
        checks.due("the tape stays", x.end(600), 600);
        checks.due("end(581)", x.end(581), 581);
        checks.due("feed beyond 600 from 581", x.feed(0, 0, 0, 0, 0), NONE);
        checks.due("end(580)", x.end(580), 580);
        checks.due("feed up to 600", x.feed(0x20202020, 0x20202020, 0x20202020, 0x20202020, 0x20202020), 600);
        checks.due("text", x.text(Checks.DAY, NONE), 0);
        checks.due("highest byte first: 29 waits", x.deed(0, NONE, 0), 29);
    }

    private static void end() {
        checks.part("promise 3");
        ShoalClaims x = new ShoalClaims();
        x.feed(0x77616974, 0x3b776169, 0x743b2020, 0x20202020, 0x20202020);
        checks.due("end(21)", x.end(21), NONE);
        checks.due("end(-1)", x.end(-1), NONE);
        checks.due("end(20)", x.end(20), 20);
        checks.due("end(5)", x.end(5), 5);
        checks.due("end(6)", x.end(6), NONE);
        checks.due("text of the first 5", x.text(Checks.DAY, NONE), 0);
        checks.due("one deed", x.deed(0, NONE, 0), 1);
        checks.due("the tape is empty", x.end(1), NONE);
        checks.due("end(MIN)", x.end(Integer.MIN_VALUE), NONE);
    }

    private static void text() {
        checks.part("promise 4");
        ShoalClaims x = new ShoalClaims();
        for (int sort = 0; sort < 3; sort++) {
            String t = sort == 2 ? "said 1 2;" : "";
            checks.due("in the place of none", Checks.tell(x, sort, 0, t), -2);
            checks.due("the first", Checks.tell(x, sort, NONE, t), 0);
            checks.due("in the place of the second", Checks.tell(x, sort, 1, t), -2);
            checks.due("the second", Checks.tell(x, sort, NONE, t), 1);
            checks.due("a third", Checks.tell(x, sort, NONE, t), -2);
            checks.due("the first anew", Checks.tell(x, sort, 0, t), 0);
            checks.due("at -2", Checks.tell(x, sort, -2, t), -2);
        }
        checks.due("sort 3", x.text(3, NONE), -2);
        checks.due("sort -1", x.text(-1, NONE), -2);
        checks.due("a fault", Checks.tell(x, 0, 1, "size 3 4;nets 3"), NONE);
        checks.due("nothing is told by it", x.sea(1, 0), 6);
        checks.due("the tape is taken", x.end(1), NONE);
        checks.due("anew", Checks.tell(x, 0, 1, "size 3 4;nets 3;"), 1);
        checks.due("the second is another", x.sea(1, 0), 3);
        checks.due("the first is not", x.sea(0, 0), 6);
        textWithoutAPlace();
    }

    /** No text is read, but the tape is taken all the same, and an earlier FAULT is over. */
    private static void textWithoutAPlace() {
        int[][] sortAndAt = {{9, 0}, {3, NONE}, {-1, NONE}, {0, 1}, {0, -2}, {0, -3},
            {0, Integer.MIN_VALUE}, {1, NONE}, {1, 2}, {2, 0}, {2, Integer.MAX_VALUE}};
        ShoalClaims x = new ShoalClaims();
        Checks.tell(x, Checks.SEA, NONE, "size 3 4;");
        Checks.tell(x, Checks.DAY, NONE, "wait;");
        Checks.tell(x, Checks.DAY, NONE, "wait;wait;");
        for (int[] call : sortAndAt) {
            String name = "text(" + call[0] + ", " + call[1] + ")";
            checks.due("a fault before", Checks.tell(x, Checks.SEA, NONE, "size 9"), NONE);
            Checks.put(x, "size 9");
            checks.due(name, x.text(call[0], call[1]), -2);
            checks.due("fault(0) behind " + name, x.fault(0), 0);
            checks.due("fault(1) behind " + name, x.fault(1), NONE);
            checks.due("the tape is empty behind " + name, x.end(1), NONE);
            checks.due("feed behind " + name, x.feed(0, 0, 0, 0, 0), 20);
            x.end(0);
        }
        checks.due("seas", x.count(Checks.SEA), 1);
        checks.due("days", x.count(Checks.DAY), 2);
        checks.due("disputes", x.count(Checks.DISPUTE), 0);
    }

    private static void faulty(int sort, String t, int fault, int place) {
        ShoalClaims x = new ShoalClaims();
        checks.due("text of [" + t + "]", Checks.tell(x, sort, NONE, t), fault == 0 ? 0 : NONE);
        checks.due("fault(0) of [" + t + "]", x.fault(0), fault);
        checks.due("fault(1) of [" + t + "]", x.fault(1), place);
        checks.due("fault(2)", x.fault(2), NONE);
        checks.due("fault(-1)", x.fault(-1), NONE);
    }

    private static String times(int n, String t) {
        return t.repeat(n);
    }

    private static void fault() {
        checks.part("promise 5");
        grammarFaults();
        numberFaults();
        faulty(0, times(4, "shoal 0 1 0;"), 0, NONE);
        faulty(0, times(5, "shoal 0 1 0;"), 3, 48);
        faulty(0, times(6, "boat 0 0 0;"), 0, NONE);
        faulty(0, times(7, "boat 0 0 0;"), 3, 66);
        faulty(1, times(30, "wait;"), 0, NONE);
        faulty(1, times(31, "wait;"), 3, 150);
        faulty(2, times(9, "said 0 1;"), 0, NONE);
        faulty(2, times(10, "said 0 1;"), 3, 81);
        faulty(2, times(2, "said 0 1;") + times(16, "ahead 0 1;"), 0, NONE);
        faulty(2, times(2, "said 0 1;") + times(17, "ahead 0 1;"), 3, 178);
        faulty(0, times(4, "shoal 0 1 0;") + "shoal 0 0 0;", 3, 48);
        faulty(0, "shoal 0 0 0;" + times(4, "shoal 0 1 0;"), 2, 8);
        faulty(0, times(5, "shoal 0 1 0;") + "nets", 1, 64);
        faulty(0, "nets 0;nets 3", 1, 13);
        faulty(0, "nets 0; nets 3 9;", 1, 15);
        faulty(0, "shoal 36 1 0;", 4, 13);
        faulty(0, "shoal 35 1 0;", 0, NONE);
        faulty(0, "boat 63 1 0;size 8 8;", 0, NONE);
        faulty(0, "boat 63 1 0;size 8 8;size 8 7; ", 4, 31);
        faulty(0, "boat 4 1 0;size 2 2;", 4, 20);
        faulty(0, "deaf 0;", 4, 7);
        faulty(0, "deaf 1;boat 0 0 0;", 4, 18);
        faulty(0, "deaf 0;boat 0 0 0;", 0, NONE);
        faulty(2, "", 4, 0);
        faulty(2, "  ", 4, 2);
        faulty(2, "said 0 1;ahead 0 1;", 4, 19);
        faulty(2, "ahead 0 1;said 0 1;said 3 3;", 0, NONE);
        faulty(2, "said 0 1;said 3 3;ahead 2 1;", 4, 28);
    }

    private static void grammarFaults() {
        faulty(0, "", 0, NONE);
        faulty(1, "", 0, NONE);
        faulty(0, " \n size\n4  3 ;", 0, NONE);
        faulty(0, "size4 3;", 0, NONE);
        faulty(0, "size 04 3;", 0, NONE);
        faulty(0, "size 4 003;", 1, 7);
        faulty(0, "size 4 3", 1, 8);
        faulty(0, "size 4 3 \n", 1, 10);
        faulty(0, "size 4;", 1, 6);
        faulty(0, "size 4 3 2;", 1, 9);
        faulty(0, "size 4 3;;", 1, 9);
        faulty(0, "siz 4 3;", 1, 0);
        faulty(0, "sizes 4 3;", 1, 0);
        faulty(0, "nets 3; Size 4 3;", 1, 8);
        faulty(0, "nets -3;", 1, 5);
        faulty(0, "nets 3\t;", 1, 6);
        faulty(0, "nets 3;\u00e9", 1, 7);
        faulty(0, "nets 3;\u0000", 1, 7);
        faulty(0, "nets wind;", 1, 5);
        faulty(0, "3;", 1, 0);
        faulty(0, "wait;", 1, 0);
        faulty(1, "wait 1;", 1, 5);
        faulty(1, "split 0;", 1, 7);
        faulty(1, "said 0 1;", 1, 0);
        faulty(2, "wait;", 1, 0);
    }

    private static void numberFaults() {
        faulty(0, "size 1 3;", 2, 5);
        faulty(0, "size 8 9;", 2, 7);
        faulty(0, "size 2 8;", 0, NONE);
        faulty(0, "wind 4 0;", 2, 5);
        faulty(0, "wind 0 4;", 2, 7);
        faulty(0, "wind 3 3;", 0, NONE);
        faulty(0, "nets 0;", 2, 5);
        faulty(0, "nets 10;", 2, 5);
        faulty(0, "nets 9;", 0, NONE);
        faulty(0, "coast 3 1 0 0 1;", 2, 6);
        faulty(0, "coast 0 0 0 0 1;", 2, 8);
        faulty(0, "coast 0 21 0 0 1;", 2, 8);
        faulty(0, "coast 0 1 6 0 1;", 2, 10);
        faulty(0, "coast 0 1 0 21 1;", 2, 12);
        faulty(0, "coast 0 1 0 0 0;", 2, 14);
        faulty(0, "coast 0 1 0 0 31;", 2, 14);
        faulty(0, "coast 2 20 5 20 30;coast 0 1 0 0 1;", 0, NONE);
        faulty(0, "shoal 64 1 0;", 2, 6);
        faulty(0, "shoal 0 0 0;", 2, 8);
        faulty(0, "shoal 0 1 5;", 2, 10);
        faulty(0, "shoal 0 99 4;", 0, NONE);
        faulty(0, "boat 64 0 0;", 2, 5);
        faulty(0, "boat 0 21 0;", 2, 7);
        faulty(0, "boat 0 0 3;", 2, 9);
        faulty(0, "boat 0 20 2;", 0, NONE);
        faulty(0, "deaf 6;", 2, 5);
        faulty(1, "row 6 0;", 2, 4);
        faulty(1, "row 0 4;", 2, 6);
        faulty(1, "row 5 3;", 0, NONE);
        faulty(1, "claim 6 0 1;", 2, 6);
        faulty(1, "claim 0 6 1;", 2, 8);
        faulty(1, "claim 0 0 0;", 2, 10);
        faulty(1, "claim 0 0 21;", 2, 10);
        faulty(1, "claim 5 5 20;", 0, NONE);
        faulty(1, "all 6 1;", 2, 4);
        faulty(1, "all 0 0;", 2, 6);
        faulty(1, "all 0 21;", 2, 6);
        faulty(1, "split 6 0;", 2, 6);
        faulty(1, "split 0 6;", 2, 8);
        faulty(1, "net 6 0;", 2, 4);
        faulty(1, "net 0 6;", 2, 6);
        faulty(2, "said 5 4;", 2, 7);
        faulty(2, "said 5 5;", 0, NONE);
        faulty(2, "said 0 99;", 0, NONE);
        faulty(2, "said 0 1;ahead 0 0;", 2, 17);
        faulty(2, "said 0 1;ahead 9 0;", 2, 15);
        faulty(2, "said 0 1;ahead 0 9;", 2, 17);
        faulty(2, "said 0 1;ahead 9 9;", 2, 15);
        faulty(0, "size 3 1;nets 0;", 2, 7);
    }

    private static void sea() {
        checks.part("promise 6");
        ShoalClaims x = told("", SEA + "nets 7;nets 2;wind 3 1;");
        int[] first = {6, 6, 0, 0, 4, 0, 0, NONE, NONE, NONE, 3, 1, 4, 6, 3, 1, 4, 6, 3, 1, 4, 6, NONE};
        int[] second = {4, 3, 3, 1, 2, 2, 3, NONE, NONE, NONE, 3, 1, 4, 6, 2, 0, 2, 3, 3, 1, 4, 6, NONE};
        for (int what = 0; what < first.length; what++) {
            checks.due("sea(0, " + what + ")", x.sea(0, what), first[what]);
            checks.due("sea(1, " + what + ")", x.sea(1, what), second[what]);
        }
        Checks.tell(x, 0, 1, "");
        for (int what = 0; what < first.length; what++) {
            checks.due("as at first: sea(1, " + what + ")", x.sea(1, what), first[what]);
        }
        checks.due("sea(2, 0)", x.sea(2, 0), NONE);
        checks.due("sea(-1, 0)", x.sea(-1, 0), NONE);
        checks.due("sea(0, -1)", x.sea(0, -1), NONE);
        checks.due("sea(0, MAX)", x.sea(0, Integer.MAX_VALUE), NONE);
    }

    private static void shoal() {
        checks.part("promise 7");
        ShoalClaims x = told(SEA);
        checks.due("CELL", x.shoal(0, 0, 0), 5);
        checks.due("FISH", x.shoal(0, 1, 1), 20);
        checks.due("DRIFT", x.shoal(0, 0, 2), 1);
        checks.due("no DRIFT", x.shoal(0, 1, 2), 4);
        checks.due("no such shoal", x.shoal(0, 2, 0), NONE);
        checks.due("no such shoal", x.shoal(0, -1, 0), NONE);
        checks.due("no such sea", x.shoal(1, 0, 0), NONE);
        checks.due("what 3", x.shoal(0, 0, 3), NONE);
        checks.due("what -1", x.shoal(0, 0, -1), NONE);
    }

    private static void boat() {
        checks.part("promise 8");
        ShoalClaims x = told(SEA);
        checks.due("CELL", x.boat(0, 2, 0), 11);
        checks.due("VOICE", x.boat(0, 1, 1), 2);
        checks.due("COAST", x.boat(0, 1, 2), 1);
        checks.due("not DEAF", x.boat(0, 1, 3), 0);
        checks.due("DEAF", x.boat(0, 2, 3), 1);
        checks.due("what 4", x.boat(0, 2, 4), NONE);
        checks.due("no such boat", x.boat(0, 3, 0), NONE);
        checks.due("no such boat", x.boat(0, -1, 0), NONE);
        checks.due("no such sea", x.boat(-1, 0, 0), NONE);
    }

    private static void far() {
        checks.part("promise 9");
        ShoalClaims x = told(SEA, "size 3 3;wind 0 3;");
        checks.due("with the wind", x.far(0, 4, 6), 2);
        checks.due("against it", x.far(0, 6, 4), 6);
        checks.due("across", x.far(0, 0, 8), 2);
        checks.due("both", x.far(0, 11, 0), 2 + 9);
        checks.due("none", x.far(0, 7, 7), 0);
        checks.due("south against a north wind", x.far(1, 1, 7), 8);
        checks.due("north with it", x.far(1, 7, 1), 2);
        Checks.tell(x, 0, 1, "size 3 3;wind 2 1;");
        checks.due("north against a south wind", x.far(1, 7, 1), 4);
        checks.due("south with it", x.far(1, 1, 7), 2);
        Checks.tell(x, 0, 1, "size 3 3;wind 3 2;");
        checks.due("east against a west wind", x.far(1, 3, 5), 6);
        checks.due("west with it", x.far(1, 5, 3), 2);
        checks.due("no such cell", x.far(1, 9, 0), NONE);
        checks.due("no such cell", x.far(1, 0, 9), NONE);
        checks.due("no such cell", x.far(1, -1, 0), NONE);
        checks.due("no such sea", x.far(2, 0, 0), NONE);
    }

    private static void hears() {
        checks.part("promise 10");
        // boats in a row: 0 is heard by 1, 1 by 0 and 2; 3 is heard by all, but hears nobody
        ShoalClaims x = told(SEA, "size 8 2;boat 0 2 0;boat 2 3 0;boat 5 1 0;boat 6 9 0;deaf 3;");
        checks.due("of 0", x.hears(0, 0, NONE), 2);
        checks.due("of 1", x.hears(0, 1, NONE), 0);
        checks.due("of 2, which is deaf", x.hears(0, 2, 6), 2);
        checks.due("word, heard at once", x.hears(1, 0, 1), 0);
        checks.due("word, passed on", x.hears(1, 0, 2), 1);
        checks.due("word to the deaf", x.hears(1, 0, 3), NONE);
        checks.due("word that does not get there", x.hears(1, 2, 0), NONE);
        checks.due("word of the deaf", x.hears(1, 3, 0), 0);
        checks.due("both are one", x.hears(1, 0, 0), NONE);
        checks.due("no such to", x.hears(1, 0, 4), NONE);
        checks.due("to 6: the hearers", x.hears(1, 3, 6), 7);
        checks.due("no such boat", x.hears(1, 4, 0), NONE);
        checks.due("no such boat", x.hears(1, -1, -1), NONE);
        checks.due("no such sea", x.hears(2, 0, 1), NONE);
    }

    private static void loud() {
        checks.part("promise 11");
        ShoalClaims x = told(SEA, "size 8 2;boat 0 2 0;boat 2 3 0;boat 5 1 0;boat 6 9 0;deaf 3;");
        checks.due("of several the least", x.loud(0), 0);
        checks.due("the loudest", x.loud(1), 3);
        Checks.tell(x, 0, 1, "");
        checks.due("no boats", x.loud(1), NONE);
        checks.due("no such sea", x.loud(2), NONE);
        Checks.tell(x, 0, 1, "boat 0 0 0;boat 5 0 0;");
        checks.due("nobody is heard", x.loud(1), 0);
    }

    private static void deed() {
        checks.part("promise 12");
        ShoalClaims x = told(DAY, "wait;all 3 20;");
        checks.due("how many", x.deed(0, NONE, 0), 9);
        checks.due("NONE, what 1", x.deed(0, NONE, 1), -2);
        int[][] due = {{1, 0, 0, 3}, {1, 1, 0, 2}, {2, 1, 2, NONE}, {3, 0, 0, NONE}, {0, 0, 1, NONE}};
        for (int k = 0; k < due.length; k++) {
            for (int what = 0; what < 4; what++) {
                checks.due("deed(0, " + k + ", " + what + ")", x.deed(0, k, what), due[k][what]);
            }
        }
        checks.due("net", x.deed(0, 8, 0), 4);
        checks.due("wait", x.deed(1, 0, 0), 5);
        checks.due("a wait's number", x.deed(1, 0, 1), NONE);
        checks.due("all", x.deed(1, 1, 2), 20);
        checks.due("no such deed", x.deed(0, 9, 0), -2);
        checks.due("no such deed", x.deed(0, -2, 0), -2);
        checks.due("no such day", x.deed(2, 0, 0), -2);
        checks.due("what 4", x.deed(0, 0, 4), -2);
        checks.due("what -1", x.deed(0, 0, -1), -2);
    }

    private static void stopsAt(String sea, String day, int want) {
        checks.due("stop of [" + day + "]", told(sea, day).stop(0, 0), want);
    }

    private static void stop() {
        checks.part("promise 13");
        stopsAt(SEA, DAY, 7);
        stopsAt(SEA, SHARED_DAY, 3);
        stopsAt(SEA, "wait;", 1);
        stopsAt(SEA, "wait;row 3 0;", 1);
        stopsAt(SEA, "row 0 3;", 0);
        stopsAt(SEA, "row 0 0;row 0 0;", 1);
        stopsAt(SEA, "row 0 2;row 0 2;", 1);
        stopsAt(SEA, "row 2 1;", 0);
        stopsAt(SEA, "claim 0 2 3;", 0);
        stopsAt(SEA, "claim 3 0 3;", 0);
        stopsAt(SEA, "claim 2 1 1;", 1);
        stopsAt(SEA, "all 2 1;", 1);
        stopsAt(SEA, "all 3 1;", 0);
        stopsAt(SEA, "split 0 0;", 0);
        stopsAt(SEA, "claim 0 0 3;split 1 0;", 1);
        stopsAt(SEA, "claim 0 0 3;split 0 0;split 0 0;split 0 0;wait;split 0 0;", 6);
        // SHOALS 2 to 5 come from SHOAL 0; there is no number 6
        stopsAt(SEA, "claim 0 0 3;split 0 0;split 0 0;split 0 0;split 0 0;", 5);
        stopsAt(SEA, "claim 0 0 3;split 0 0;split 0 0;split 0 0;split 0 0;split 0 0;", 5);
        stopsAt("coast 0 1 0 9 30;shoal 0 2 4;boat 0 0 0;", "claim 0 0 1;split 0 0;split 0 0;", 2);
        stopsAt("coast 0 1 0 9 3;shoal 0 99 4;boat 0 0 0;", "claim 0 0 1;wait;wait;split 0 0;split 0 0;", 4);
        stopsAt(SEA, "net 0 0;", 0);
        stopsAt(SEA, "wait;net 1 0;net 1 0;", 2);
        stopsAt(SEA, "wait;net 1 0;claim 0 0 3;", 2);
        ShoalClaims x = told(SEA, DAY);
        checks.due("no such sea", x.stop(1, 0), NONE);
        checks.due("no such day", x.stop(0, 1), NONE);
    }

    private static void stateIs(ShoalClaims x, int n, int shoal, int... want) {
        for (int what = 0; what < want.length; what++) {
            String call = "state(0, 0, " + n + ", " + shoal + ", " + what + ")";
            checks.due(call, x.state(0, 0, n, shoal, what), want[what]);
        }
    }

    private static void state() {
        checks.part("promise 14");
        ShoalClaims x = told(SEA, DAY);
        stateIs(x, 0, 0, 5, 9, NONE, 0, 0, 1, -2);
        stateIs(x, 1, 0, 6, 9, 0, 3, 6, 1, -2);
        stateIs(x, 2, 0, 7, 9, 0, 3, 5, 1, -2);
        stateIs(x, 3, 0, 7, 9, 0, 3, 4, 1);
        stateIs(x, 2, 1, 10, 20, NONE, 0, 0, 4);
        stateIs(x, 3, 1, 10, 20, 1, 2, 3, 4);
        stateIs(x, 5, 1, 10, 20, 1, 2, 1, 4);
        stateIs(x, 6, 1, 10, 20, NONE, 0, 0, 4);
        stateIs(x, 7, 1, -2, -2, -2, -2, -2, -2);
        stateIs(x, 3, 2, -2, -2);
        stateIs(x, 4, 0, 7, 5, 0, 3, 3, 1);
        stateIs(x, 4, 2, 6, 4, NONE, 0, 0, 3);
        stateIs(x, 6, 2, 4, 4, NONE, 0, 0, 3);
        stateIs(x, 7, 2, 4, 4, NONE, 0, 0, 3);
        stateIs(x, 6, 0, 7, 5, 0, 3, 1, 1);
        stateIs(x, 7, 0, 7, 5, NONE, 0, 0, 1);
        stateIs(x, 8, 0, -2, -2);
        stateIs(x, -1, 0, -2, -2);
        stateIs(x, 0, 6, -2);
        stateIs(x, 0, -1, -2);
        checks.due("what -1", x.state(0, 0, 0, 0, -1), -2);
        checks.due("no such sea", x.state(1, 0, 0, 0, 0), -2);
        checks.due("no such day", x.state(0, 1, 0, 0, 0), -2);
        heldAnew();
        splitNumbers();
    }

    private static void heldAnew() {
        ShoalClaims x = told("coast 0 1 0 9 3;shoal 0 9 4;boat 0 0 0;boat 0 0 0;",
            "claim 0 0 5;wait;claim 0 0 2;wait;wait;wait;claim 1 0 4;claim 0 0 9;");
        stateIs(x, 2, 0, 0, 9, 0, 5, 2, 4);
        stateIs(x, 3, 0, 0, 9, 0, 2, 3, 4);
        stateIs(x, 5, 0, 0, 9, 0, 2, 1, 4);
        stateIs(x, 6, 0, 0, 9, NONE, 0, 0, 4);
        stateIs(x, 7, 0, 0, 9, 1, 4, 3, 4);
        stateIs(x, 8, 0, 0, 9, 1, 4, 2, 4);
    }

    /** Numbers are not given again, and end with 5. */
    private static void splitNumbers() {
        ShoalClaims x = told("size 2 2;coast 0 1 0 9 30;shoal 0 2 0;shoal 0 99 1;shoal 0 5 2;boat 0 0 0;",
            "net 0 0;all 0 1;split 0 1;split 0 2;split 0 1;split 0 1;");
        checks.due("stop: no number left", x.stop(0, 0), 5);
        stateIs(x, 5, 0, -2);
        stateIs(x, 5, 1, 1, 25, 0, 1, 27, 1);
        stateIs(x, 5, 2, 2, 3, 0, 1, 27, 2);
        stateIs(x, 5, 3, 0, 49, NONE, 0, 0, 3);
        stateIs(x, 5, 4, 0, 2, NONE, 0, 0, 0);
        stateIs(x, 5, 5, 0, 25, NONE, 0, 0, 3);
    }

    private static void hasIs(ShoalClaims x, int n, int boat, int... want) {
        for (int what = 0; what < want.length; what++) {
            checks.due("has(0, 0, " + n + ", " + boat + ", " + what + ")", x.has(0, 0, n, boat, what), want[what]);
        }
    }

    private static void has() {
        checks.part("promise 15");
        ShoalClaims x = told(SEA, DAY);
        hasIs(x, 0, 0, 4, 0, 3, 0, 0, -2);
        hasIs(x, 0, 1, 6, 0, 2, 0, 0, -2);
        hasIs(x, 0, 2, 11, 0, 2, 0, 0, -2);
        hasIs(x, 1, 0, 4, 0, 3, 1, 1);
        hasIs(x, 1, 1, 6, 0, 2, 0, 0);
        hasIs(x, 3, 1, 6, 0, 2, 2, 1);
        hasIs(x, 3, 0, 4, 0, 1, 1, 1);
        hasIs(x, 5, 0, 5, 0, 5, 1, 1);
        hasIs(x, 7, 1, 10, 20, 1, 0, 1);
        hasIs(x, 8, 1, -2, -2);
        hasIs(x, 0, 3, -2, -2);
        hasIs(x, 0, -1, -2);
        checks.due("what -1", x.has(0, 0, 0, 0, -1), -2);
        checks.due("no such sea", x.has(1, 0, 0, 0, 0), -2);
        checks.due("no such day", x.has(0, -1, 0, 0, 0), -2);
    }

    private static void claimed() {
        checks.part("promise 16");
        ShoalClaims x = told(SEA, DAY, "all 0 3;all 0 2;claim 2 1 3;claim 2 1 20;row 0 3;all 0 3;");
        int[][] due = {{1, 2}, {0, 0}, {2, 0}, {NONE, NONE}, {NONE, NONE}, {NONE, NONE}, {NONE, NONE}, {NONE, NONE}};
        for (int k = 0; k < due.length; k++) {
            checks.due("claimed(0, 0, " + k + ", false)", x.claimed(0, 0, k, false), due[k][0]);
            checks.due("claimed(0, 0, " + k + ", true)", x.claimed(0, 0, k, true), due[k][1]);
        }
        checks.due("all of both", x.claimed(0, 1, 0, false), 3);
        checks.due("too few syllables", x.claimed(0, 1, 1, false), 0);
        checks.due("heard all the same", x.claimed(0, 1, 1, true), 2);
        checks.due("somebody else holds it", x.claimed(0, 1, 2, false), 0);
        checks.due("heard", x.claimed(0, 1, 2, true), 2);
        checks.due("not ahead of STOP", x.claimed(0, 1, 5, true), NONE);
        checks.due("k -1", x.claimed(0, 0, -1, true), NONE);
        checks.due("k MAX", x.claimed(0, 0, Integer.MAX_VALUE, true), NONE);
        checks.due("no such sea", x.claimed(1, 0, 0, true), NONE);
        checks.due("no such day", x.claimed(0, 2, 0, true), NONE);
    }

    private static void shares() {
        checks.part("promise 17");
        ShoalClaims x = told(SEA, DAY, SHARED_DAY);
        checks.due("all to the netter", x.shares(0, 0, 6, 0), 20);
        checks.due("nobody held it", x.shares(0, 0, 6, 1), NONE);
        checks.due("nobody's fish", x.shares(0, 0, 6, 2), 0);
        checks.due("the netter's", x.shares(0, 1, 2, 0), 8);
        checks.due("who held it", x.shares(0, 1, 2, 1), 0);
        checks.due("the holder's", x.shares(0, 1, 2, 2), 12);
        checks.due("what 3", x.shares(0, 1, 2, 3), -2);
        checks.due("what -1", x.shares(0, 1, 2, -1), -2);
        checks.due("no net", x.shares(0, 1, 1, 0), -2);
        checks.due("not ahead of STOP", x.shares(0, 0, 7, 0), -2);
        checks.due("no such deed", x.shares(0, 1, 3, 0), -2);
        checks.due("no such deed", x.shares(0, 1, -1, 0), -2);
        checks.due("no such sea", x.shares(1, 1, 2, 0), -2);
        checks.due("no such day", x.shares(0, 2, 2, 0), -2);
        ShoalClaims cut = told("nets 7;coast 0 1 0 9 9;shoal 0 10 4;shoal 0 7 4;boat 1 0 0;boat 0 0 0;",
            "claim 0 0 3;net 1 0;claim 1 1 2;net 1 1;");
        checks.due("cut: 10 * 3 / 10", cut.shares(0, 0, 1, 2), 3);
        checks.due("the others", cut.shares(0, 0, 1, 0), 7);
        checks.due("its own: all", cut.shares(0, 0, 3, 0), 7);
        checks.due("its own: it held", cut.shares(0, 0, 3, 1), 1);
        checks.due("its own: all FISH of that one", cut.shares(0, 0, 3, 2), 7);
        Checks.tell(cut, 0, 0, "nets 4;coast 0 1 0 9 9;shoal 0 10 4;shoal 0 7 4;boat 1 0 0;boat 0 0 0;");
        checks.due("cut: 10 * 3 / 7", cut.shares(0, 0, 1, 2), 4);
        checks.due("the others", cut.shares(0, 0, 1, 0), 6);
        checks.due("boat 0 has them", cut.has(0, 0, 4, 0, 1), 4);
        checks.due("boat 1 has them", cut.has(0, 0, 4, 1, 1), 13);
        Checks.tell(cut, 0, 0, "nets 9;coast 0 1 0 9 1;shoal 0 1 4;shoal 0 7 4;boat 1 0 0;boat 0 0 0;");
        checks.due("the holder's, cut to nothing", cut.shares(0, 0, 1, 2), 0);
        checks.due("who held it all the same", cut.shares(0, 0, 1, 1), 0);
        Checks.tell(cut, 1, 0, "claim 1 1 2;net 1 1;");
        checks.due("its own in its last hour", cut.shares(0, 0, 1, 2), 7);
        checks.due("its own fish are told once", cut.has(0, 0, 2, 1, 1), 7);
        Checks.tell(cut, 1, 0, "claim 1 1 2;wait;net 1 1;");
        checks.due("no more its own: nobody's", cut.shares(0, 0, 2, 1), NONE);
        checks.due("no more its own: nobody's fish", cut.shares(0, 0, 2, 2), 0);
        checks.due("no more its own: all to it", cut.shares(0, 0, 2, 0), 7);
    }

    private static void twice() {
        checks.part("promise 18");
        ShoalClaims x = told(SEA, DAY, SHARED_DAY);
        checks.due("the first", x.twice(0, 0), 1);
        checks.due("none", x.twice(0, 1), 0);
        checks.due("no such sea", x.twice(1, 0), NONE);
        checks.due("no such day", x.twice(0, 2), NONE);
        String two = "coast 0 2 0 9 9;shoal 0 9 4;shoal 1 9 4;boat 0 0 0;boat 0 0 0;";
        checks.due("anew is not twice", told(two, "all 0 2;all 0 2;").twice(0, 0), 0);
        checks.due("an all", told(two, "all 0 2;all 1 2;").twice(0, 0), 3);
        checks.due("too few syllables", told(two, "all 0 2;all 1 1;").twice(0, 0), 0);
        checks.due("behind STOP", told(two, "all 0 2;row 0 0;all 1 2;").twice(0, 0), 0);
        checks.due("too far", told("coast 0 2 0 1 9;shoal 0 9 4;boat 0 0 0;boat 2 0 0;", "all 0 2;all 1 2;").twice(0, 0), 0);
    }

    private static void soonIs(String sea, int... want) {
        ShoalClaims x = told(sea);
        checks.due("soon of [" + sea + "]", x.soon(0, 0, 0, 0), want.length == 0 ? NONE : want[0]);
        for (int i = 1; i < want.length; i++) {
            checks.due("hour " + (i - 1) + " of [" + sea + "]", x.soon(0, 0, 0, 9 + i), want[i]);
        }
        checks.due("behind the last hour", x.soon(0, 0, 0, 9 + Math.max(1, want.length)), NONE);
    }

    private static void soon() {
        checks.part("promise 19");
        soonIs("coast 0 1 0 1 1;shoal 0 1 4;boat 1 0 0;", 0);
        soonIs("coast 0 1 0 1 1;shoal 0 1 4;boat 7 0 0;", 1, 0);
        soonIs("coast 0 1 0 1 1;shoal 0 1 4;boat 14 0 0;", 3, 0, 0, 3);
        soonIs("coast 0 1 0 0 1;shoal 35 1 4;boat 21 0 0;", 4, 1, 1, 2, 2);
        // the shoal comes nearer by itself, so any first row that keeps it within reach will do
        soonIs("size 8 2;coast 0 1 0 0 1;shoal 7 1 3;boat 0 0 0;", 4, 1, 1, 1, 4);
        soonIs("size 8 2;coast 0 1 0 0 1;shoal 4 1 3;boat 0 0 0;", 2, 1, 1);
        soonIs("coast 0 1 1 9 1;shoal 0 1 4;boat 0 0 0;boat 3 0 0;", 3, 1, 1, 1);
        soonIs("coast 0 1 1 9 1;shoal 0 1 4;boat 0 1 0;boat 3 0 0;", 2, 1, 1);
        soonIs("coast 0 1 1 9 1;shoal 0 1 4;boat 0 1 0;boat 3 0 0;deaf 1;");
        soonIs("coast 0 1 1 2 1;shoal 0 1 4;boat 0 0 0;boat 3 0 0;");
        ShoalClaims x = told(SEA);
        checks.due("no such boat", x.soon(0, 3, 0, 0), NONE);
        checks.due("no such shoal", x.soon(0, 0, 2, 0), NONE);
        checks.due("no such sea", x.soon(1, 0, 0, 0), NONE);
        checks.due("what 1", x.soon(0, 2, 0, 1), NONE);
        checks.due("what -1", x.soon(0, 2, 0, -1), NONE);
        checks.due("what MAX", x.soon(0, 2, 0, Integer.MAX_VALUE), NONE);
        checks.due("what MIN", x.soon(0, 2, 0, Integer.MIN_VALUE), NONE);
    }

    private static void berth() {
        checks.part("promise 20");
        ShoalClaims x = told("size 4 2;coast 0 1 0 1 1;shoal 0 5 4;shoal 2 6 4;shoal 7 20 4;boat 0 0 0;boat 3 0 1;");
        // from 1: 11, from 3: 26, from 6: 26, as 2 and 7 are beside both
        checks.due("the least of several", x.berth(0, 0, false), 3);
        checks.due("its fish", x.berth(0, 0, true), 26);
        // boat 1 needs one witness, and boat 0 hears it in its own cell alone; all shoals are within 4 of that
        checks.due("with a witness", x.berth(0, 1, false), 0);
        checks.due("its fish", x.berth(0, 1, true), 31);
        Checks.tell(x, 0, NONE, "boat 8 3 0;boat 9 3 0;");
        checks.due("no shoals", x.berth(1, 1, false), 0);
        checks.due("no fish", x.berth(1, 1, true), 0);
        checks.due("no such boat", x.berth(1, 2, false), NONE);
        checks.due("no such boat", x.berth(1, -1, true), NONE);
        checks.due("no such sea", x.berth(2, 0, false), NONE);
    }

    private static void pair() {
        checks.part("promise 21");
        ShoalClaims x = told("size 4 2;coast 0 1 0 0 1;shoal 6 5 4;shoal 2 6 4;shoal 3 1 4;boat 0 0 0;boat 0 0 0;boat 0 0 1;");
        checks.due("the first cell", x.pair(0, 0, 1, 0), 2);
        checks.due("the second cell", x.pair(0, 0, 1, 1), 6);
        checks.due("fish", x.pair(0, 0, 1, 2), 11);
        // boat 2 needs a witness beside itself, but then reaches all within 4
        checks.due("both in cell 0: the first reaches too far", x.pair(0, 2, 0, 0), 0);
        checks.due("in one cell, or beside boat 1", x.pair(0, 2, 0, 1), 0);
        checks.due("fish", x.pair(0, 2, 0, 2), 12);
        checks.due("both are one", x.pair(0, 1, 1, 0), NONE);
        checks.due("no such boat", x.pair(0, 3, 1, 0), NONE);
        checks.due("no such boat", x.pair(0, 1, 3, 0), NONE);
        checks.due("what 3", x.pair(0, 0, 1, 3), NONE);
        checks.due("what -1", x.pair(0, 0, 1, -1), NONE);
        checks.due("no such sea", x.pair(1, 0, 1, 0), NONE);
        // each is the only witness of the other, with a voice of 0
        ShoalClaims y = told("size 3 2;coast 0 1 1 0 1;shoal 5 5 4;shoal 2 6 4;boat 0 0 0;boat 1 0 0;");
        checks.due("together", y.pair(0, 0, 1, 0), 2);
        checks.due("together", y.pair(0, 0, 1, 1), 2);
        checks.due("fish", y.pair(0, 0, 1, 2), 6);
        // the second boat is no witness in the cell that it has left
        ShoalClaims z = told("size 3 2;coast 0 1 1 0 1;coast 1 1 0 0 1;shoal 1 5 4;shoal 2 4 4;boat 0 0 0;boat 1 0 1;");
        checks.due("the first goes to the second", z.pair(0, 0, 1, 0), 0);
        checks.due("which can claim alone", z.pair(0, 0, 1, 1), 1);
        checks.due("but one shoal", z.pair(0, 0, 1, 2), 5);
    }

    private static void dispute() {
        checks.part("promise 22");
        ShoalClaims x = told(DISPUTE, "said 0 9;said 0 9;ahead 0 1;ahead 1 0;");
        int[] due = {3, 2, 1, 3, 1, 2, 0, -2, -2, -2, 1, 0, 2, -2};
        int[] circle = {2, 2, 0, NONE, 0, NONE, 1, -2, -2, -2, NONE, NONE, -2, -2};
        for (int what = 0; what < due.length; what++) {
            checks.due("dispute(0, " + what + ")", x.dispute(0, what), due[what]);
            checks.due("dispute(1, " + what + ")", x.dispute(1, what), circle[what]);
        }
        int[][] numbers = {{20, 0}, {22, 1}, {23, -2}, {30, 5}, {32, 9}, {33, -2}, {40, 1}, {41, 0}, {42, -2}, {60, 0}, {61, 2}, {62, -2}};
        for (int[] n : numbers) {
            checks.due("dispute(0, " + n[0] + ")", x.dispute(0, n[0]), n[1]);
        }
        checks.due("what -1", x.dispute(0, -1), -2);
        checks.due("no such dispute", x.dispute(2, 0), -2);
        checks.due("no such dispute", x.dispute(-1, 0), -2);
        Checks.tell(x, 2, 0, times(9, "said 0 99;"));
        checks.due("nine free ones", x.dispute(0, 2), 362880);
        checks.due("none sure", x.dispute(0, 3), 0);
        checks.due("all may be first", x.dispute(0, 5), 511);
        Checks.tell(x, 2, 0, times(9, "said 0 7;") + "ahead 0 1;ahead 1 2;ahead 2 3;ahead 3 4;ahead 4 5;ahead 5 6;ahead 6 7;ahead 7 8;");
        checks.due("a chain of nine", x.dispute(0, 2), 1);
        checks.due("all sure", x.dispute(0, 3), 36);
        checks.due("eight hours are too few", x.dispute(0, 4), 0);
        Checks.tell(x, 2, 0, times(3, "said 0 9;") + "ahead 0 1;ahead 1 0;ahead 1 2;ahead 2 1;ahead 0 1;ahead 2 0;");
        // without 1 (1 ahead of 0) and 2 (1 ahead of 2): 2, 0, 1
        checks.due("fewest", x.dispute(0, 6), 6);
        Checks.tell(x, 2, 0, "said 3 9;said 0 2;said 2 5;said 2 2;ahead 1 2;");
        checks.due("first: earlier than all, or in their hour", x.dispute(0, 5), 1 << 1 | 1 << 3);
    }

    private static void hours() {
        checks.part("promise 23");
        ShoalClaims x = told(DISPUTE, "said 0 9;said 0 9;ahead 0 1;ahead 1 0;");
        int[][] due = {{3, 5}, {2, 3}, {4, 9}};
        for (int s = 0; s < 3; s++) {
            checks.due("least of " + s, x.hours(0, s, false), due[s][0]);
            checks.due("most of " + s, x.hours(0, s, true), due[s][1]);
        }
        checks.due("not FIT", x.hours(1, 0, false), NONE);
        checks.due("no such saying", x.hours(0, 3, false), NONE);
        checks.due("no such saying", x.hours(0, -1, true), NONE);
        checks.due("no such dispute", x.hours(2, 0, true), NONE);
        Checks.tell(x, 2, 0, "said 0 5;said 0 4;ahead 0 1;");
        checks.due("most is bound by the one behind", x.hours(0, 0, true), 3);
        Checks.tell(x, 2, 0, "said 5 5;said 0 5;ahead 0 1;");
        checks.due("no hour left", x.hours(0, 1, true), NONE);
    }

    private static void gulls() {
        checks.part("promise 24");
        ShoalClaims x = told(SEA, DAY);
        checks.due("k 0: lawful claims", x.gulls(0, 0, 5, 0, 0), 2);
        checks.due("k 0: STOP", x.gulls(0, 0, 5, 0, 1), 7);
        checks.due("k 0: fish", x.gulls(0, 0, 5, 0, 11), 20);
        // no witness for boat 0: boat 1 claims 0 at hour 1, both at hour 2; the split of hour 3 can't be
        checks.due("k 10: lawful claims", x.gulls(0, 0, 5, 10, 0), 3);
        checks.due("k 10: STOP", x.gulls(0, 0, 5, 10, 1), 3);
        checks.due("k 10: fish", x.gulls(0, 0, 5, 10, 11), 0);
        // from seed 0 the first x is 12345, which is 0 by 16 shifted; from 1: 1103527590, 16838
        checks.due("seed 0 draws 0", x.gulls(0, 0, 0, 1, 1), 3);
        checks.due("seed 1 draws 8", x.gulls(0, 0, 1, 8, 1), 7);
        checks.due("seed 1 draws 8", x.gulls(0, 0, 1, 9, 1), 3);
        checks.due("seed -1: -1103502900, 48697, draws 7", x.gulls(0, 0, -1, 7, 1), 7);
        checks.due("seed -1 draws 7", x.gulls(0, 0, -1, 8, 1), 3);
        checks.due("k -1", x.gulls(0, 0, 1, -1, 0), NONE);
        checks.due("k 11", x.gulls(0, 0, 1, 11, 0), NONE);
        checks.due("what 2", x.gulls(0, 0, 1, 1, 2), NONE);
        checks.due("what 13", x.gulls(0, 0, 1, 1, 13), NONE);
        checks.due("what -1", x.gulls(0, 0, 1, 1, -1), NONE);
        checks.due("no such sea", x.gulls(1, 0, 1, 1, 0), NONE);
        checks.due("no such day", x.gulls(0, 1, 1, 1, 0), NONE);
        // each shoal of an all draws by itself: 0, then what comes of x = 12345
        ShoalClaims y = told("coast 0 1 1 9 9;shoal 0 5 4;shoal 1 5 4;boat 0 1 0;boat 1 1 0;", "all 0 1;");
        int second = (12345 * 1103515245 + 12345 >>> 16) % 10;
        checks.due("the first is not heard, the second is", y.gulls(0, 0, 0, 1, 0), second < 1 ? 0 : 1);
        checks.due("none is heard", y.gulls(0, 0, 0, second + 1, 0), 0);
    }

    private static void lack() {
        checks.part("promise 25");
        ShoalClaims x = told(SEA, DAY);
        checks.due("nothing", x.lack(0, 0, 0, 0, 0), 0);
        checks.due("three cells away", x.lack(0, 0, 2, 0, 0), 0);
        checks.due("held by another", x.lack(0, 0, 1, 1, 0), 1);
        checks.due("too far", x.lack(0, 0, 0, 1, 0), 4);
        checks.due("its own", x.lack(0, 0, 1, 0, 0), 0);
        checks.due("held no more", x.lack(0, 0, 7, 0, 0), 0);
        checks.due("netted", x.lack(0, 0, 7, 0, 1), NONE);
        checks.due("not split yet", x.lack(0, 0, 3, 0, 2), NONE);
        checks.due("split", x.lack(0, 0, 4, 0, 2), 0);
        checks.due("no such state", x.lack(0, 0, 8, 0, 0), NONE);
        checks.due("no such state", x.lack(0, 0, -1, 0, 0), NONE);
        checks.due("no such boat", x.lack(0, 0, 0, 3, 0), NONE);
        checks.due("no such shoal", x.lack(0, 0, 0, 0, 6), NONE);
        checks.due("no such shoal", x.lack(0, 0, 0, 0, -1), NONE);
        checks.due("no such sea", x.lack(1, 0, 0, 0, 0), NONE);
        checks.due("no such day", x.lack(0, 1, 0, 0, 0), NONE);
        ShoalClaims y = told("coast 1 1 0 20 9;shoal 35 5 4;boat 0 0 0;boat 35 0 1;", "claim 1 0 1;");
        checks.due("all", y.lack(0, 0, 1, 0, 0), 7);
        checks.due("witnesses and nearness", y.lack(0, 0, 0, 0, 0), 6);
    }

    private static void least() {
        checks.part("promise 26");
        ShoalClaims x = told(SEA, "coast 0 1 0 4 1;coast 1 1 2 4 1;coast 2 1 1 4 1;shoal 0 1 4;shoal 5 1 4;boat 0 20 0;boat 1 0 1;boat 4 9 2;");
        checks.due("boat 0", x.least(0, 0, 0), 2);
        checks.due("no witnesses asked", x.least(0, 1, 1), 0);
        checks.due("too far", x.least(0, 1, 0), NONE);
        checks.due("boat 2 to boat 1: 1 and 3", x.least(0, 2, 1), 4);
        checks.due("none asked", x.least(1, 0, 0), 0);
        checks.due("two of them", x.least(1, 1, 0), 3);
        checks.due("one", x.least(1, 2, 1), 3);
        checks.due("no such boat", x.least(1, 3, 0), NONE);
        checks.due("no such shoal", x.least(1, 0, 2), NONE);
        checks.due("no such sea", x.least(2, 0, 0), NONE);
        ShoalClaims y = told("size 8 8;wind 3 3;coast 0 1 1 20 1;shoal 0 1 4;boat 0 0 0;boat 5 0 0;", "size 8 8;wind 3 3;coast 0 1 1 20 1;shoal 0 1 4;boat 0 20 0;boat 6 0 0;");
        checks.due("20 is enough", y.least(0, 0, 0), 20);
        checks.due("20 is not enough", y.least(1, 0, 0), NONE);
    }

    private static void winds() {
        checks.part("promise 27");
        ShoalClaims x = told(SEA, "");
        checks.due("strength", x.winds(0, 0), 0);
        checks.due("side", x.winds(0, 1), 0);
        // without wind 1 hears 0; 0 hears 1; 0 and 1 hear 2
        checks.due("couples", x.winds(0, 2), 4);
        checks.due("no boats", x.winds(1, 2), 0);
        checks.due("what 3", x.winds(0, 3), NONE);
        checks.due("what -1", x.winds(0, -1), NONE);
        checks.due("no such sea", x.winds(2, 0), NONE);
        checks.due("the sea's own wind stays", x.sea(0, 3), 2);
    }

    private static void meet() {
        checks.part("promise 28");
        ShoalClaims x = told("shoal 0 5 1;shoal 2 5 3;shoal 0 1 4;shoal 3 1 3;boat 0 0 0;", "size 8 2;shoal 0 5 1;shoal 7 5 4;shoal 8 1 1;shoal 15 1 0;");
        checks.due("hour 1", x.meet(0, 0, 1), 1);
        checks.due("hour 0", x.meet(0, 0, 2), 0);
        checks.due("they pass each other, then stay at their edges", x.meet(0, 0, 3), NONE);
        checks.due("at the edge", x.meet(0, 1, 2), 2);
        checks.due("after all", x.meet(0, 3, 2), 3);
        checks.due("seven hours", x.meet(1, 0, 1), 7);
        checks.due("one after the other in a row", x.meet(1, 1, 3), 1);
        checks.due("two rows", x.meet(1, 0, 2), NONE);
        checks.due("both are one", x.meet(0, 1, 1), NONE);
        checks.due("no such shoal", x.meet(0, 0, 4), NONE);
        checks.due("no such shoal", x.meet(0, -1, 0), NONE);
        checks.due("no such sea", x.meet(2, 0, 1), NONE);
    }

    private static void sum() {
        checks.part("promise 29");
        ShoalClaims x = told(SEA, "shoal 0 5 1;", DAY, SHARED_DAY);
        int[] due = {20, 9, 1, 1, -2};
        int[] shared = {12, 9, 0, 0, -2};
        int[] noBoats = {0, 5, 0, NONE, -2};
        for (int what = 0; what < 5; what++) {
            checks.due("sum(0, 0, " + what + ")", x.sum(0, 0, what), due[what]);
            checks.due("sum(0, 1, " + what + ")", x.sum(0, 1, what), shared[what]);
            checks.due("sum(1, 0, " + what + ")", x.sum(1, 0, what), noBoats[what]);
        }
        checks.due("what -1", x.sum(0, 0, -1), -2);
        checks.due("no such sea", x.sum(2, 0, 0), -2);
        checks.due("no such day", x.sum(0, 2, 0), -2);
        ShoalClaims y = told("shoal 0 5 4;shoal 1 5 4;boat 0 0 2;boat 1 0 1;", "net 1 1;net 0 0;");
        checks.due("of several coasts the least", y.sum(0, 0, 2), 1);
        checks.due("of several boats the least", y.sum(0, 0, 3), 0);
        checks.due("no luck", y.sum(0, 0, 0), 0);
        checks.due("nothing spared", y.sum(0, 0, 1), 0);
    }

    private static void tells() {
        checks.part("promise 30");
        ShoalClaims x = told(SEA, "size 8 2;boat 0 2 0;boat 2 3 0;boat 5 1 0;boat 6 9 0;deaf 3;");
        checks.due("one", x.tells(0, 0), 1);
        checks.due("none", x.tells(0, 1), 0);
        checks.due("over others", x.tells(1, 0), 2);
        checks.due("only the deaf one is near", x.tells(1, 2), 0);
        checks.due("the deaf one tells", x.tells(1, 3), 3);
        checks.due("no such boat", x.tells(1, 4), NONE);
        checks.due("no such boat", x.tells(1, -1), NONE);
        checks.due("no such sea", x.tells(2, 0), NONE);
    }

    private static void count() {
        checks.part("promise 31");
        ShoalClaims x = told(SEA, "", DAY, DISPUTE);
        checks.due("seas", x.count(0), 2);
        checks.due("days", x.count(1), 1);
        checks.due("disputes", x.count(2), 1);
        checks.due("sort 3", x.count(3), -2);
        checks.due("sort -1", x.count(-1), -2);
        Checks.tell(x, 1, 0, "wait");
        checks.due("a fault adds none", x.count(1), 1);
        Checks.tell(x, 1, 0, "wait;");
        checks.due("nor does one in the place of another", x.count(1), 1);
    }

    private static void image() {
        checks.part("promise 32");
        ShoalClaims x = told(SEA);
        checks.due("image(-1)", x.image(-1), false);
        checks.due("image(3)", x.image(3), false);
        for (int k = 0; k < 3; k++) {
            checks.due("image", x.image(k), true);
        }
        checks.due("an image anew", x.image(1), true);
        Checks.tell(x, 0, 0, "size 2 2;");
        checks.due("image(1)", x.image(1), true);
        x.again(0);
        checks.due("the first image", x.sea(0, 0), 4);
        x.again(1);
        checks.due("the later image", x.sea(0, 0), 2);
        x.again(2);
        checks.due("the third image", x.sea(0, 0), 4);
    }

    private static void again() {
        checks.part("promise 33");
        ShoalClaims x = told(SEA, DAY, DISPUTE);
        checks.due("none such", x.again(0), false);
        Checks.tell(x, 1, NONE, "row 0");
        Checks.put(x, "wait;");
        x.image(2);
        checks.due("none such", x.again(1), false);
        checks.due("again(3)", x.again(3), false);
        checks.due("again(-1)", x.again(-1), false);
        x.text(1, NONE);
        Checks.tell(x, 0, 0, "nets 9;");
        Checks.tell(x, 0, NONE, "nets 9;");
        Checks.tell(x, 2, 0, "said 7 7;");
        Checks.put(x, "all of this goes away");
        checks.due("again(2)", x.again(2), true);
        checks.due("fault", x.fault(0), 1);
        checks.due("place", x.fault(1), 5);
        checks.due("seas", x.count(0), 1);
        checks.due("days", x.count(1), 1);
        checks.due("the sea", x.sea(0, 4), 4);
        checks.due("the dispute", x.dispute(0, 0), 3);
        checks.due("the tape's length", x.end(6), NONE);
        checks.due("the tape", x.text(1, 0), 0);
        checks.due("its text", x.deed(0, 0, 0), 5);
        checks.due("again once more", x.again(2), true);
        checks.due("the first day", x.deed(0, NONE, 0), 9);
    }
}
