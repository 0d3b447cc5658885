/** The boundary cases of a DISPUTE: "Terms" 1 and 4, promises 22 and 23. */
public final class EdgesOfDisputesTest {
    private static final Checks checks = new Checks();
    private static final int NONE = ShoalClaims.NONE;
    /** Each SAYING ahead of the next one. */
    private static final String CHAIN = "ahead 0 1;ahead 1 2;ahead 2 3;ahead 3 4;ahead 4 5;ahead 5 6;ahead 6 7;ahead 7 8;";

    private EdgesOfDisputesTest() {
    }

    public static void main(String[] args) {
        oneSaying();
        nineSayings();
        mostAheads();
        noneSuch();
        noOrders();
        ordersThatDoNotFit();
        orders();
        sureCouples();
        fit();
        first();
        fewest();
        hours();
        hoursNone();
        twoDisputes();
        checks.finish();
    }

    /** The answers to what 0 .. 6: SAYINGS, AHEADS, ORDERS, SURE, FIT, FIRST, FEWEST. */
    private static void disputeIs(String t, int... want) {
        ShoalClaims x = checks.disputed(t);
        checks.row("dispute of [" + t + "]", what -> x.dispute(0, what), want);
    }

    private static void oneSaying() {
        checks.sentence("Terms 1", "A DISPUTE has SAYINGS, 1 to 9, from 0 on");
        disputeIs("said 0 0;", 1, 0, 1, 0, 1, 1, 0, -2, -2, -2, 0, -2);
        disputeIs("said 99 99;", 1, 0, 1, 0, 1, 1, 0, -2, -2, -2, 0, -2);
        ShoalClaims x = checks.disputed("said 3 99;");
        checks.row("FROM", k -> x.dispute(0, 20 + k), 3, -2);
        checks.row("TO", k -> x.dispute(0, 30 + k), 99, -2);
        checks.row("AHEADS", k -> x.dispute(0, 40 + k), -2, -2);
        checks.row("AHEADS", k -> x.dispute(0, 60 + k), -2, -2);
        checks.due("least", x.hours(0, 0, false), 3);
        checks.due("most", x.hours(0, 0, true), 99);
    }

    private static void nineSayings() {
        checks.sentence("Terms 1", "A DISPUTE has SAYINGS, 1 to 9, from 0 on");
        disputeIs("said 0 0;".repeat(9), 9, 0, 362880, 0, 1, 511, 0);
        disputeIs("said 0 8;".repeat(9) + CHAIN, 9, 8, 1, 36, 1, 1, 0);
        ShoalClaims x = checks.disputed("said 0 9;said 1 8;said 2 7;said 3 6;said 4 5;said 5 99;said 6 98;said 7 97;said 8 96;");
        checks.row("FROM", k -> x.dispute(0, 20 + k), 0, 1, 2, 3, 4, 5, 6, 7, 8, -2);
        checks.row("TO", k -> x.dispute(0, 30 + k), 9, 8, 7, 6, 5, 99, 98, 97, 96, -2);
        checks.row("the first ORDER", i -> x.dispute(0, 10 + i), 0, 1, 2, 3, 4, 5, 6, 7, 8, -2);
    }

    private static void mostAheads() {
        checks.sentence("Terms 1", "AHEADS, at most 16, from 0 on: of two.");
        StringBuilder t = new StringBuilder("said 0 9;".repeat(9));
        int[] firsts = {0, 0, 0, 0, 0, 0, 0, 0, 1, 1, 1, 1, 1, 1, 1, 2, -2};
        int[] seconds = {1, 2, 3, 4, 5, 6, 7, 8, 2, 3, 4, 5, 6, 7, 8, 3, -2};
        for (int k = 0; k < 16; k++) {
            t.append("ahead ").append(firsts[k]).append(' ').append(seconds[k]).append(';');
        }
        ShoalClaims x = checks.disputed(t.toString());
        checks.due("AHEADS", x.dispute(0, 1), 16);
        checks.row("ahead", k -> x.dispute(0, 40 + k), firsts);
        checks.row("of", k -> x.dispute(0, 60 + k), seconds);
        checks.row("between them", i -> x.dispute(0, 56 + i), -2, -2, -2, -2);
        // 0 and 1 come first; of the seven others 2 is ahead of 3
        checks.due("ORDERS", x.dispute(0, 2), 5040 / 2);
        checks.due("SURE", x.dispute(0, 3), 16);
    }

    private static void noneSuch() {
        checks.sentence("Promise 22", "-2: there is none such, or for another what.");
        ShoalClaims x = checks.disputed("said 0 9;said 1 8;ahead 1 0;");
        checks.same("another what", -2, what -> x.dispute(0, what),
            -1, -2, 7, 8, 9, 12, 13, 18, 19, 22, 23, 28, 29, 32, 38, 39, 41, 55, 56, 59, 61, 75, 76, 80, 100);
        checks.same("no such DISPUTE", -2, d -> x.dispute(d, 0), -1, 1, 2);
        checks.same("no such DISPUTE", -2, d -> x.dispute(d, 10), -1, 1, 2);
        checks.same("no such DISPUTE", -2, d -> x.dispute(d, 20), -1, 1, 2);
        checks.row("the others", what -> x.dispute(0, what), 2, 1, 1, 1, 1, 2, 0, -2, -2, -2, 1, 0, -2);
    }

    private static void noOrders() {
        checks.sentence("Promise 22", "3: how many SURE couples (NONE without ORDERS)");
        disputeIs("said 0 9;said 0 9;ahead 0 1;ahead 1 0;", 2, 2, 0, NONE, 0, NONE, 1);
        disputeIs("said 0 9;said 0 9;said 0 9;ahead 0 1;ahead 1 2;ahead 2 0;", 3, 3, 0, NONE, 0, NONE, 1);
        disputeIs("said 0 99;".repeat(9) + CHAIN + "ahead 8 0;", 9, 9, 0, NONE, 0, NONE, 1);
        checks.sentence("Promise 22", "10 + i: the i-th of the first ORDER (NONE without)");
        ShoalClaims x = checks.disputed("said 0 9;said 0 9;said 0 9;ahead 1 2;ahead 2 1;");
        checks.row("without ORDERS, then no such", i -> x.dispute(0, 10 + i), NONE, NONE, NONE, -2, -2, -2, -2, -2, -2, -2);
        checks.row("FROM all the same", k -> x.dispute(0, 20 + k), 0, 0, 0, -2);
        checks.row("AHEADS all the same", k -> x.dispute(0, 40 + k), 1, 2, -2);
    }

    private static void ordersThatDoNotFit() {
        checks.sentence("Promise 22", "4: 1 if it is FIT, else 0, 5: FIRST (bits; NONE, if it is not FIT)");
        disputeIs("said 5 5;said 5 5;ahead 0 1;", 2, 1, 1, 1, 0, NONE, 0, -2, -2, -2, 0, 1, -2);
        disputeIs("said 5 5;said 5 6;ahead 0 1;", 2, 1, 1, 1, 1, 1, 0, -2, -2, -2, 0, 1, -2);
        disputeIs("said 9 9;said 0 8;ahead 0 1;", 2, 1, 1, 1, 0, NONE, 0);
        disputeIs("said 9 9;said 0 8;ahead 1 0;", 2, 1, 1, 1, 1, 2, 0, -2, -2, -2, 1, 0, -2);
    }

    private static void orders() {
        checks.sentence("Terms 4", "all SAYINGS one behind the other so that each AHEAD is so: how many there are; the first by rows.");
        disputeIs("said 0 9;".repeat(3), 3, 0, 6, 0, 1, 7, 0, -2, -2, -2, 0, 1, 2, -2);
        disputeIs("said 0 9;".repeat(3) + "ahead 2 0;", 3, 1, 3, 1, 1, 6, 0, -2, -2, -2, 1, 2, 0, -2);
        disputeIs("said 0 9;".repeat(3) + "ahead 2 1;ahead 1 0;", 3, 2, 1, 3, 1, 4, 0, -2, -2, -2, 2, 1, 0, -2);
        disputeIs("said 0 9;".repeat(4) + "ahead 3 0;ahead 2 0;", 4, 2, 8, 2, 1, 14, 0, -2, -2, -2, 1, 2, 3, 0, -2);
        // hours say nothing about ORDERS
        disputeIs("said 9 9;said 0 0;", 2, 0, 2, 0, 1, 2, 0, -2, -2, -2, 0, 1, -2);
        disputeIs("said 0 9;".repeat(9) + "ahead 8 0;", 9, 1, 181440, 1, 1, 510, 0, -2, -2, -2, 1, 2, 3, 4, 5, 6, 7, 8, 0, -2);
    }

    private static void sureCouples() {
        checks.sentence("Terms 4", "SURE couples: a ahead of b in all ORDERS.");
        disputeIs("said 0 9;".repeat(3) + "ahead 0 1;ahead 0 1;", 3, 2, 3, 1);
        disputeIs("said 0 9;".repeat(3) + "ahead 0 1;ahead 1 2;", 3, 2, 1, 3);
        disputeIs("said 0 9;".repeat(3) + "ahead 0 1;ahead 1 2;ahead 0 2;", 3, 3, 1, 3);
        disputeIs("said 0 9;".repeat(3) + "ahead 2 1;ahead 1 0;", 3, 2, 1, 3);
        disputeIs("said 0 9;".repeat(4) + "ahead 3 1;ahead 1 2;ahead 0 2;", 4, 3, 3, 4);
        disputeIs("said 0 9;".repeat(9) + CHAIN.replace("ahead 4 5;", ""), 9, 7, 126, 16);
    }

    private static void fit() {
        checks.sentence("Terms 4", "each SAYING in its hours, one that is ahead of another one in an earlier hour");
        disputeIs("said 0 8;".repeat(9) + CHAIN, 9, 8, 1, 36, 1, 1);
        disputeIs("said 0 7;".repeat(9) + CHAIN, 9, 8, 1, 36, 0, NONE);
        disputeIs("said 91 99;".repeat(9) + CHAIN, 9, 8, 1, 36, 1, 1);
        disputeIs("said 92 99;".repeat(9) + CHAIN, 9, 8, 1, 36, 0, NONE);
        disputeIs("said 99 99;said 99 99;", 2, 0, 2, 0, 1, 3);
        disputeIs("said 99 99;said 0 99;ahead 0 1;", 2, 1, 1, 1, 0, NONE);
        disputeIs("said 98 99;said 0 99;ahead 0 1;", 2, 1, 1, 1, 1, 1);
        disputeIs("said 0 9;said 0 0;ahead 0 1;", 2, 1, 1, 1, 0, NONE);
        disputeIs("said 0 9;said 0 1;ahead 0 1;", 2, 1, 1, 1, 1, 1);
    }

    private static void first() {
        checks.sentence("Terms 4", "SAYINGS (bits) that may have been in no later hour than any other one.");
        disputeIs("said 5 9;said 0 5;", 2, 0, 2, 0, 1, 3);
        disputeIs("said 6 9;said 0 5;", 2, 0, 2, 0, 1, 2);
        disputeIs("said 5 9;said 0 5;said 5 5;", 3, 0, 6, 0, 1, 7);
        disputeIs("said 5 9;said 0 4;said 5 5;", 3, 0, 6, 0, 1, 2);
        disputeIs("said 0 9;said 0 9;ahead 1 0;", 2, 1, 1, 1, 1, 2);
        // 2 is ahead of 1 and so is said at 4 at the latest: 0, from 5 on, is behind it
        disputeIs("said 5 9;said 0 5;said 0 9;ahead 2 1;", 3, 1, 3, 1, 1, 4);
        disputeIs("said 4 9;said 0 5;said 0 9;ahead 2 1;", 3, 1, 3, 1, 1, 5);
        disputeIs("said 0 0;".repeat(9), 9, 0, 362880, 0, 1, 511);
        disputeIs("said 1 1;".repeat(8) + "said 0 0;", 9, 0, 362880, 0, 1, 256);
    }

    private static void fewestIs(String aheads, int want) {
        ShoalClaims x = checks.disputed("said 0 9;".repeat(9) + aheads);
        checks.due("FEWEST of [" + aheads + "]", x.dispute(0, 6), want);
    }

    private static void fewest() {
        checks.sentence("Terms 4", "the fewest AHEADS without which there is an ORDER; of several the least number (bits).");
        fewestIs("", 0);
        fewestIs(CHAIN, 0);
        fewestIs("ahead 0 1;ahead 1 0;", 1);
        fewestIs("ahead 0 1;ahead 0 1;ahead 1 0;", 4);
        fewestIs("ahead 0 1;ahead 1 0;ahead 0 1;", 2);
        fewestIs("ahead 0 1;ahead 1 0;ahead 1 0;", 1);
        fewestIs("ahead 0 1;ahead 1 0;ahead 1 0;ahead 0 1;", 6);
        fewestIs("ahead 0 1;ahead 1 0;ahead 2 3;ahead 3 2;", 5);
        fewestIs("ahead 4 5;ahead 0 1;ahead 1 2;ahead 2 0;", 2);
        fewestIs("ahead 0 1;ahead 1 2;ahead 2 0;ahead 1 0;", 1);
        fewestIs("ahead 1 2;ahead 2 0;ahead 1 0;ahead 0 1;", 8);
        fewestIs(CHAIN + "ahead 8 0;", 1);
        fewestIs("ahead 8 0;" + CHAIN, 1);
        fewestIs("ahead 0 1;".repeat(8) + "ahead 1 0;".repeat(8), 255);
        fewestIs("ahead 0 1;".repeat(9) + "ahead 1 0;".repeat(7), 0xfe00);
        fewestIs("ahead 0 1;".repeat(15) + "ahead 1 0;", 0x8000);
        fewestIs("ahead 7 8;" + "ahead 0 1;".repeat(14) + "ahead 8 7;", 1);
        fewestIs("ahead 7 8;" + "ahead 8 7;".repeat(15), 1);
        // the number of two is the least, but one is fewer
        fewestIs("ahead 7 0;ahead 0 8;ahead 7 1;ahead 1 8;ahead 8 7;", 16);
    }

    private static void hours() {
        checks.sentence("Terms 4", "the least, the most hour of each in any HOURS");
        ShoalClaims tight = checks.disputed("said 0 8;".repeat(9) + CHAIN);
        checks.row("least", s -> tight.hours(0, s, false), 0, 1, 2, 3, 4, 5, 6, 7, 8, NONE);
        checks.row("most", s -> tight.hours(0, s, true), 0, 1, 2, 3, 4, 5, 6, 7, 8, NONE);
        ShoalClaims wide = checks.disputed("said 0 99;".repeat(9) + CHAIN);
        checks.row("least", s -> wide.hours(0, s, false), 0, 1, 2, 3, 4, 5, 6, 7, 8, NONE);
        checks.row("most", s -> wide.hours(0, s, true), 91, 92, 93, 94, 95, 96, 97, 98, 99, NONE);
        ShoalClaims free = checks.disputed("said 0 0;said 99 99;said 0 99;");
        checks.row("least", s -> free.hours(0, s, false), 0, 99, 0, NONE);
        checks.row("most", s -> free.hours(0, s, true), 0, 99, 99, NONE);
        ShoalClaims bound = checks.disputed("said 3 9;said 0 9;said 0 7;ahead 0 1;ahead 1 2;");
        checks.row("least", s -> bound.hours(0, s, false), 3, 4, 5, NONE);
        checks.row("most", s -> bound.hours(0, s, true), 5, 6, 7, NONE);
        ShoalClaims back = checks.disputed("said 0 7;said 0 9;said 3 9;ahead 2 1;ahead 1 0;");
        checks.row("least", s -> back.hours(0, s, false), 5, 4, 3, NONE);
        checks.row("most", s -> back.hours(0, s, true), 7, 6, 5, NONE);
    }

    private static void hoursNone() {
        checks.sentence("Promise 23", "NONE: it is not FIT, or there is none such (of either).");
        ShoalClaims x = checks.disputed("said 0 9;said 1 8;");
        checks.same("no such SAYING, least", NONE, s -> x.hours(0, s, false), -1, 2, 8, 9);
        checks.same("no such SAYING, most", NONE, s -> x.hours(0, s, true), -1, 2, 8, 9);
        checks.same("no such DISPUTE, least", NONE, d -> x.hours(d, 0, false), -1, 1, 2);
        checks.same("no such DISPUTE, most", NONE, d -> x.hours(d, 0, true), -1, 1, 2);
        String[] notFit = {"said 0 9;said 0 9;said 0 9;ahead 0 1;ahead 1 0;", "said 5 5;said 5 5;said 0 9;ahead 0 1;",
            "said 5 9;said 0 5;said 0 9;ahead 0 1;"};
        for (String t : notFit) {
            ShoalClaims y = checks.disputed(t);
            checks.row("least of [" + t + "]", s -> y.hours(0, s, false), NONE, NONE, NONE, NONE);
            checks.row("most of [" + t + "]", s -> y.hours(0, s, true), NONE, NONE, NONE, NONE);
        }
    }

    private static void twoDisputes() {
        checks.sentence("Terms 1", "DISPUTES, at most 2 (2), from 0 on.");
        ShoalClaims x = checks.disputed("said 0 9;said 0 9;ahead 1 0;");
        checks.due("the second", Checks.tell(x, Checks.DISPUTE, NONE, "said 5 6;said 5 5;said 5 7;ahead 1 2;"), 1);
        checks.row("SAYINGS", d -> x.dispute(d, 0), 2, 3, -2);
        checks.row("ORDERS", d -> x.dispute(d, 2), 1, 3, -2);
        checks.row("most of the first", d -> x.hours(d, 0, true), 9, 6, NONE);
        checks.row("FIRST", d -> x.dispute(d, 5), 2, 3, -2);
        checks.due("a shorter one in its place", Checks.tell(x, Checks.DISPUTE, 1, "said 7 7;"), 1);
        checks.row("nothing stays of the longer one", what -> x.dispute(1, what), 1, 0, 1, 0, 1, 1, 0);
        checks.row("SAYINGS", k -> x.dispute(1, 20 + k), 7, -2, -2);
        checks.row("AHEADS", k -> x.dispute(1, 40 + k), -2, -2);
        checks.row("the other one stays", what -> x.dispute(0, what), 2, 1, 1, 1, 1, 2, 0);
    }
}
