/** The boundary cases of what a SEA answers by itself: "Terms" 2, 3 and 5, promises 6 to 11, 19 to 21, 26 to 28 and 30. */
public final class EdgesOfSeasTest {
    private static final Checks checks = new Checks();
    private static final int NONE = ShoalClaims.NONE;
    /** Six boats in a row of cells, each heard by those beside it alone. */
    private static final String CHAIN = "size 8 2;boat 0 1 0;boat 1 1 0;boat 2 1 0;boat 3 1 0;boat 4 1 0;boat 5 1 0;";
    private static final String SIX_IN_A_CELL = "boat 7 0 0;".repeat(6);

    private EdgesOfSeasTest() {
    }

    public static void main(String[] args) {
        sea();
        shoal();
        boat();
        farBySteps();
        farCells();
        hearsUpToItsVoice();
        hearsNoneSuch();
        word();
        loud();
        soonHours();
        soonCant();
        soonWay();
        berth();
        berthByLaw();
        pair();
        pairByRows();
        least();
        winds();
        meet();
        tells();
        cornersOfTheLargestSea();
        seasInTurn();
        checks.finish();
    }

    private static void sea() {
        checks.sentence("Promise 6", "10 + 4 c + i: of COAST c SYLLABLES, WITNESSES, NEAR, HOLD.");
        ShoalClaims x = checks.told("size 3 4;wind 2 1;nets 5;coast 0 1 2 3 4;coast 1 5 3 7 8;coast 2 9 4 11 12;");
        checks.row("sea", what -> x.sea(0, what), 3, 4, 2, 1, 5, 0, 0, NONE, NONE, NONE, 1, 2, 3, 4, 5, 3, 7, 8, 9, 4, 11, 12, NONE);
        checks.sentence("Promise 6", "NONE: there is none such, or for another what.");
        checks.same("no such SEA", NONE, sea -> x.sea(sea, 0), -1, 1, 2, -2);
        checks.same("another what", NONE, what -> x.sea(0, what), -1, -2, 7, 8, 9, 22, 23, 26);
        Checks.tell(x, Checks.SEA, NONE, "");
        checks.due("the second SEA", x.sea(1, 0), 6);
        checks.same("no third SEA", NONE, sea -> x.sea(sea, 0), 2, 3);
    }

    private static void shoal() {
        checks.sentence("Terms 1", "SHOALS, at most 4, from 0 on");
        checks.same("no SHOALS", NONE, s -> checks.told("boat 0 0 0;").shoal(0, s, 0), -1, 0, 1);
        ShoalClaims x = checks.told("shoal 0 1 4;shoal 1 2 3;shoal 2 3 2;shoal 3 99 1;");
        checks.row("FISH", s -> x.shoal(0, s, 1), 1, 2, 3, 99, NONE);
        checks.row("the last SHOAL", what -> x.shoal(0, 3, what), 3, 99, 1, NONE);
        checks.sentence("Promise 7", "NONE: there is none such (of either), or for another what.");
        checks.same("no such SHOAL", NONE, s -> x.shoal(0, s, 0), -1, -2, 4, 5);
        checks.same("no such SEA", NONE, sea -> x.shoal(sea, 0, 0), -1, 1, 2);
        checks.same("another what", NONE, what -> x.shoal(0, 0, what), -1, 3, 4);
    }

    private static void boat() {
        checks.sentence("Terms 1", "BOATS, at most 6, from 0 on");
        checks.same("no BOATS", NONE, b -> checks.told("shoal 0 1 0;").boat(0, b, 0), -1, 0, 1);
        ShoalClaims x = checks.told("boat 0 1 2;boat 1 0 0;boat 2 3 1;boat 3 4 0;boat 4 5 0;boat 35 20 2;deaf 5;deaf 0;");
        checks.row("CELL", b -> x.boat(0, b, 0), 0, 1, 2, 3, 4, 35, NONE);
        checks.row("the last BOAT", what -> x.boat(0, 5, what), 35, 20, 2, 1, NONE);
        checks.sentence("Promise 8", "3: 1 if it is DEAF, else 0.");
        checks.row("DEAF", b -> x.boat(0, b, 3), 1, 0, 0, 0, 0, 1, NONE);
        checks.sentence("Promise 8", "NONE: there is none such (of either), or for another what.");
        checks.same("no such BOAT", NONE, b -> x.boat(0, b, 0), -1, -2, 6, 7);
        checks.same("no such BOAT's DEAF", NONE, b -> x.boat(0, b, 3), -1, 6, 32);
        checks.same("no such SEA", NONE, sea -> x.boat(sea, 0, 0), -1, 1, 2);
        checks.same("another what", NONE, what -> x.boat(0, 0, what), -1, 4, 5);
    }

    private static void farBySteps() {
        checks.sentence("Terms 2", "each costs 1, against the WIND 1 and STRENGTH");
        int[] beside = {1, 5, 7, 3};
        int[] atTheEdge = {0, 2, 8, 6};
        for (int side = 0; side < 4; side++) {
            for (int strength = 0; strength <= 3; strength++) {
                ShoalClaims x = checks.told("size 3 3;wind " + side + " " + strength + ";");
                for (int to = 0; to < 4; to++) {
                    int against = (to + 2) % 4 == side ? strength : 0;
                    int back = to == side ? strength : 0;
                    checks.due("wind " + side + " " + strength + ", a step to " + to, x.far(0, 4, beside[to]), 1 + against);
                    checks.due("wind " + side + " " + strength + ", a step back", x.far(0, beside[to], 4), 1 + back);
                    checks.due("to its own CELL", x.far(0, atTheEdge[to], atTheEdge[to]), 0);
                }
            }
        }
        checks.sentence("Terms 2", "FAR of two CELLS: the least cost.");
        ShoalClaims x = checks.told("size 8 8;wind 1 3;");
        checks.due("from corner to corner against it", x.far(0, 63, 0), 14 + 7 * 3);
        checks.due("from corner to corner with it", x.far(0, 0, 63), 14);
        checks.due("from corner to corner against it", x.far(0, 7, 56), 14 + 7 * 3);
        checks.due("across it", x.far(0, 0, 56), 7);
        checks.due("across it", x.far(0, 56, 0), 7);
    }

    private static void farCells() {
        checks.sentence("Promise 9", "NONE: there is none such (of any).");
        ShoalClaims x = checks.told("size 2 2;");
        checks.same("no such CELL to go from", NONE, cell -> x.far(0, cell, 0), -1, 4, 5, 63);
        checks.same("no such CELL to go to", NONE, cell -> x.far(0, 0, cell), -1, 4, 5, 63);
        checks.same("no such SEA", NONE, sea -> x.far(sea, 0, 0), -1, 1);
        checks.row("of the last CELL", cell -> x.far(0, 3, cell), 2, 1, 1, 0, NONE);
        Checks.tell(x, Checks.SEA, 0, "size 8 8;");
        checks.due("the last CELL", x.far(0, 63, 63), 0);
        checks.same("no such CELL", NONE, cell -> x.far(0, cell, 63), -1, 64);
        checks.same("no such CELL", NONE, cell -> x.far(0, 63, cell), -1, 64);
        Checks.tell(x, Checks.SEA, 0, "size 8 2;");
        checks.due("the end of a row and the next one are not beside each other", x.far(0, 7, 8), 8);
        checks.same("no such CELL", NONE, cell -> x.far(0, cell, 0), 16);
        Checks.tell(x, Checks.SEA, 0, "size 2 8;");
        checks.due("row by row", x.far(0, 1, 14), 8);
        checks.due("row by row", x.far(0, 0, 3), 2);
    }

    /** Two boats in CELLS 5 and 3, the wind blowing east with STRENGTH 2: FAR is 6 from 5 to 3, 2 from 3 to 5. */
    private static ShoalClaims twoBoats(int voiceIn5, int voiceIn3, String more) {
        return checks.told("size 8 2;wind 1 2;boat 5 " + voiceIn5 + " 0;boat 3 " + voiceIn3 + " 0;" + more);
    }

    private static void hearsUpToItsVoice() {
        checks.sentence("Terms 2", "FAR from that one's CELL to its own is not above that one's VOICE.");
        checks.row("6 against the wind", b -> twoBoats(6, 0, "").hears(0, b, NONE), 2, 0, NONE);
        checks.row("5 against the wind", b -> twoBoats(5, 0, "").hears(0, b, NONE), 0, 0, NONE);
        checks.row("2 with the wind", b -> twoBoats(0, 2, "").hears(0, b, NONE), 0, 1, NONE);
        checks.row("1 with the wind", b -> twoBoats(0, 1, "").hears(0, b, NONE), 0, 0, NONE);
        ShoalClaims far = checks.told("size 8 8;wind 3 3;boat 0 20 0;boat 5 0 0;boat 13 0 0;boat 6 0 0;");
        checks.due("a VOICE of 20 goes 20 far, not 21, not 24", far.hears(0, 0, NONE), 2);
        checks.sentence("Terms 2", "A BOAT HEARS another one, if it is not DEAF");
        checks.row("the first is DEAF", b -> twoBoats(6, 2, "deaf 0;").hears(0, b, NONE), 2, 0, NONE);
        checks.row("the second is DEAF", b -> twoBoats(6, 2, "deaf 1;").hears(0, b, NONE), 0, 1, NONE);
        ShoalClaims six = checks.told(SIX_IN_A_CELL);
        checks.row("in one CELL, VOICES of 0: all others", b -> six.hears(0, b, NONE), 62, 61, 59, 55, 47, 31, NONE);
        Checks.tell(six, Checks.SEA, 0, SIX_IN_A_CELL + "deaf 0;deaf 5;");
        checks.row("but the DEAF ones", b -> six.hears(0, b, NONE), 30, 28, 26, 22, 14, 30, NONE);
        Checks.tell(six, Checks.SEA, 0, SIX_IN_A_CELL + "deaf 0;deaf 1;deaf 2;deaf 3;deaf 4;deaf 5;");
        checks.row("all are DEAF: bits without any", b -> six.hears(0, b, NONE), 0, 0, 0, 0, 0, 0, NONE);
    }

    private static void hearsNoneSuch() {
        checks.sentence("Promise 10", "BOATS (bits) that HEAR a BOAT at hour 0, or (to 0 .. 5) WORD to that one.");
        ShoalClaims six = checks.told(SIX_IN_A_CELL);
        checks.same("no to: bits", 62, to -> six.hears(0, 0, to), -1, -2, 6, 7, 32);
        checks.row("WORD to 0 .. 5, then bits", to -> six.hears(0, 2, to), 0, 0, NONE, 0, 0, 0, 59);
        checks.sentence("Promise 10", "NONE: none, both are one, or there is none such (of any).");
        checks.row("both are one", b -> six.hears(0, b, b), NONE, NONE, NONE, NONE, NONE, NONE);
        checks.same("no such BOAT, bits", NONE, b -> six.hears(0, b, NONE), -1, 6, 7);
        checks.same("no such BOAT, WORD", NONE, b -> six.hears(0, b, 0), -1, 6, 7);
        checks.same("no such SEA, bits", NONE, sea -> six.hears(sea, 0, NONE), -1, 1);
        checks.same("no such SEA, WORD", NONE, sea -> six.hears(sea, 0, 1), -1, 1);
        ShoalClaims two = checks.told("boat 7 0 0;boat 7 0 0;");
        checks.row("to a BOAT that is not there", to -> two.hears(0, 0, to), NONE, 0, NONE, NONE, NONE, NONE, 2);
        checks.row("without BOATS", to -> checks.told("").hears(0, 0, to), NONE, NONE, NONE, NONE, NONE, NONE, NONE);
    }

    private static void word() {
        checks.sentence("Terms 3", "by which a word of the first one gets to the second one: the fewest that pass it on.");
        ShoalClaims x = checks.told(CHAIN);
        checks.row("of 0", to -> x.hears(0, 0, to), NONE, 0, 1, 2, 3, 4);
        checks.row("of 5", to -> x.hears(0, 5, to), 4, 3, 2, 1, 0, NONE);
        checks.row("of 2", to -> x.hears(0, 2, to), 1, 0, NONE, 0, 1, 2);
        Checks.tell(x, Checks.SEA, 0, CHAIN.replace("boat 0 1", "boat 0 3"));
        checks.row("a louder first one", to -> x.hears(0, 0, to), NONE, 0, 0, 0, 1, 2);
        Checks.tell(x, Checks.SEA, 0, CHAIN + "deaf 2;");
        checks.row("a DEAF one passes nothing on", to -> x.hears(0, 0, to), NONE, 0, NONE, NONE, NONE, NONE);
        checks.row("a DEAF one's own word", to -> x.hears(0, 2, to), 1, 0, NONE, 0, 1, 2);
        Checks.tell(x, Checks.SEA, 0, CHAIN.replace("boat 3 1", "boat 3 0"));
        checks.row("one without a VOICE passes nothing on", to -> x.hears(0, 0, to), NONE, 0, 1, 2, NONE, NONE);
        checks.row("one without a VOICE", to -> x.hears(0, 3, to), NONE, NONE, NONE, NONE, NONE, NONE);
        checks.row("to one without a VOICE", b -> x.hears(0, b, 3), 2, 1, 0, NONE, 0, 1);
    }

    private static void loud() {
        checks.sentence("Promise 11", "NONE: there are no BOATS, or there is none such.");
        ShoalClaims x = checks.told("shoal 0 1 0;");
        checks.due("no BOATS", x.loud(0), NONE);
        checks.same("no such SEA", NONE, x::loud, -1, 1, 2);
        Checks.tell(x, Checks.SEA, 0, "boat 0 20 0;deaf 0;");
        checks.due("one alone", x.loud(0), 0);
        checks.sentence("Terms 3", "LOUD: the BOAT that most others HEAR; of several the least.");
        Checks.tell(x, Checks.SEA, 0, SIX_IN_A_CELL);
        checks.due("all alike", x.loud(0), 0);
        Checks.tell(x, Checks.SEA, 0, SIX_IN_A_CELL + "deaf 0;deaf 3;");
        checks.due("the DEAF ones are heard by more", x.loud(0), 0);
        Checks.tell(x, Checks.SEA, 0, SIX_IN_A_CELL + "deaf 3;deaf 4;");
        checks.due("the DEAF ones are heard by more", x.loud(0), 3);
        Checks.tell(x, Checks.SEA, 0, CHAIN);
        checks.due("1 to 4 are heard by two", x.loud(0), 1);
        Checks.tell(x, Checks.SEA, 0, CHAIN.replace("boat 5 1", "boat 5 3"));
        checks.due("the last one", x.loud(0), 5);
    }

    private static void soonHours() {
        checks.sentence("Terms 3", "the fewest hours from hour 0 on, up to 30, in which it rows or waits");
        ShoalClaims x = checks.told("size 8 8;coast 0 1 0 0 1;shoal 63 1 4;shoal 0 1 4;boat 0 0 0;");
        checks.due("from corner to corner", x.soon(0, 0, 0, 0), 14);
        checks.row("the way, then none", i -> x.soon(0, 0, 0, 10 + i), 1, 1, 1, 1, 1, 1, 1, 2, 2, 2, 2, 2, 2, 2, NONE, NONE, NONE);
        checks.due("at once", x.soon(0, 0, 1, 0), 0);
        checks.row("no hours, so nothing is done", i -> x.soon(0, 0, 1, 10 + i), NONE, NONE);
        checks.sentence("Promise 19", "there is none such (of any), or for another what.");
        checks.same("another what", NONE, what -> x.soon(0, 0, 0, what), -1, 1, 2, 9, 24, 40, 41);
        checks.same("another what, at once", NONE, what -> x.soon(0, 0, 1, what), -1, 1, 9, 10, 11);
        checks.same("no such BOAT", NONE, b -> x.soon(0, b, 0, 0), -1, 1, 6);
        checks.same("no such SHOAL", NONE, s -> x.soon(0, 0, s, 0), -1, 2, 4, 5);
        checks.same("no such SEA", NONE, sea -> x.soon(sea, 0, 0, 0), -1, 1);
    }

    private static void soonCant() {
        checks.sentence("Promise 19", "NONE: up to 30 it can't");
        ShoalClaims alone = checks.told("coast 0 1 1 20 1;shoal 0 1 4;boat 0 20 0;");
        checks.row("no witness", what -> alone.soon(0, 0, 0, what), NONE, NONE);
        checks.same("its way", NONE, what -> alone.soon(0, 0, 0, what), 10, 11, 40);
        String six = "coast 0 1 5 20 1;shoal 0 1 4;boat 0 0 0;" + "boat 9 0 1;".repeat(5);
        checks.due("five witnesses in CELL 9", checks.told(six).soon(0, 0, 0, 0), 4);
        checks.due("four of them", checks.told(six + "deaf 5;").soon(0, 0, 0, 0), NONE);
        checks.due("its own deafness is nothing", checks.told(six + "deaf 0;").soon(0, 0, 0, 0), 4);
        String near = "size 8 2;coast 0 1 1 4 1;shoal 0 1 4;boat 0 2 0;boat 6 0 0;";
        checks.due("4 from the shoal, 2 from the witness", checks.told(near).soon(0, 0, 0, 0), 4);
        checks.due("3 from the shoal is too near it", checks.told(near.replace("1 1 4 1", "1 1 3 1")).soon(0, 0, 0, 0), NONE);
        checks.sentence("Terms 3", "others stay, and nobody HOLDS anything, till a claim of it is LAWFUL");
        checks.due("20 syllables can be said", checks.told("coast 0 20 0 0 1;shoal 0 1 4;boat 0 0 0;").soon(0, 0, 0, 0), 0);
    }

    private static void soonWay() {
        checks.sentence("Terms 3", "how many, the way first by rows (0 .. 3 row, 4 waits)");
        // the shoal comes to the witness in seven hours; six of them go to the east and back
        ShoalClaims back = checks.told("size 8 2;coast 0 1 1 0 1;shoal 7 1 3;boat 0 0 0;boat 0 0 0;");
        checks.due("seven hours", back.soon(0, 0, 0, 0), 7);
        checks.row("to and fro, then it waits", i -> back.soon(0, 0, 0, 10 + i), 1, 1, 1, 3, 3, 3, 4, NONE);
        ShoalClaims behind = checks.told("size 8 2;coast 0 1 0 0 1;shoal 1 1 1;boat 0 0 0;");
        checks.due("behind a shoal up to the edge", behind.soon(0, 0, 0, 0), 7);
        checks.row("always east", i -> behind.soon(0, 0, 0, 10 + i), 1, 1, 1, 1, 1, 1, 1, NONE);
        ShoalClaims north = checks.told("size 2 8;coast 0 1 0 0 1;shoal 3 1 0;boat 15 0 0;");
        checks.due("a shoal that stays at the edge", north.soon(0, 0, 0, 0), 7);
        checks.row("always north", i -> north.soon(0, 0, 0, 10 + i), 0, 0, 0, 0, 0, 0, 0, NONE);
        ShoalClaims wind = checks.told("size 8 2;wind 1 1;coast 0 1 0 2 1;shoal 0 1 4;boat 3 0 0;");
        checks.due("FAR goes from the boat to the shoal", wind.soon(0, 0, 0, 0), 2);
        checks.row("against the wind", i -> wind.soon(0, 0, 0, 10 + i), 3, 3, NONE);
        ShoalClaims odd = checks.told("size 2 2;coast 0 1 0 0 1;shoal 1 1 3;boat 3 0 0;");
        // the shoal is in 0 from hour 1 on
        checks.due("two hours", odd.soon(0, 0, 0, 0), 2);
        checks.row("north first", i -> odd.soon(0, 0, 0, 10 + i), 0, 3, NONE);
    }

    private static void berth() {
        checks.sentence("Promise 20", "BERTH, or (fish) FISH then. NONE: there is none such (of either).");
        ShoalClaims x = checks.told("size 8 8;coast 0 1 0 0 1;shoal 63 99 4;boat 0 0 0;");
        checks.due("the last CELL", x.berth(0, 0, false), 63);
        checks.due("its FISH", x.berth(0, 0, true), 99);
        checks.same("no such BOAT", NONE, b -> x.berth(0, b, false), -1, 1, 6);
        checks.same("no such BOAT's FISH", NONE, b -> x.berth(0, b, true), -1, 1, 6);
        checks.same("no such SEA", NONE, sea -> x.berth(sea, 0, false), -1, 1);
        Checks.tell(x, Checks.SEA, 0, "size 8 8;coast 0 1 0 0 1;" + "shoal 63 99 4;".repeat(4) + "boat 0 0 0;");
        checks.due("four in one CELL", x.berth(0, 0, true), 396);
        checks.sentence("Terms 3", "nobody holding any; of several the least.");
        Checks.tell(x, Checks.SEA, 0, "coast 0 1 0 0 1;shoal 30 5 4;shoal 20 5 4;shoal 10 4 4;boat 30 0 0;");
        checks.due("the least of two", x.berth(0, 0, false), 20);
        Checks.tell(x, Checks.SEA, 0, "coast 0 1 0 0 1;shoal 30 5 4;shoal 20 4 4;boat 20 0 0;");
        checks.due("one FISH more", x.berth(0, 0, false), 30);
        Checks.tell(x, Checks.SEA, 0, "boat 7 0 0;boat 7 0 0;");
        checks.due("no SHOALS: all CELLS alike", x.berth(0, 0, false), 0);
        checks.due("no SHOALS: no FISH", x.berth(0, 0, true), 0);
        Checks.tell(x, Checks.SEA, 0, "shoal 7 5 4;boat 7 0 0;");
        checks.due("no witness: all CELLS alike", x.berth(0, 0, false), 0);
        checks.due("no witness: no FISH", x.berth(0, 0, true), 0);
    }

    private static void berthByLaw() {
        checks.sentence("Terms 3", "the CELL from which it could claim, at hour 0, SHOALS with the most FISH together");
        String shoal = "coast 0 1 0 1 1;shoal 63 9 4;boat 0 0 0;";
        checks.due("NEAR 1", checks.told("size 8 8;" + shoal).berth(0, 0, false), 55);
        checks.due("NEAR 1, with the wind", checks.told("size 8 8;wind 2 3;" + shoal).berth(0, 0, false), 55);
        checks.due("NEAR 1, against it", checks.told("size 8 8;wind 0 1;" + shoal).berth(0, 0, false), 62);
        checks.due("hour 0, it has not drifted", checks.told("coast 0 1 0 0 1;shoal 7 9 0;boat 0 0 0;").berth(0, 0, false), 7);
        String law = "size 8 2;coast 0 1 2 20 1;shoal 0 9 4;boat 0 2 0;boat 3 0 0;boat 5 0 0;";
        checks.due("two witnesses, 2 from both", checks.told(law).berth(0, 0, false), 3);
        checks.due("one of them is DEAF", checks.told(law + "deaf 2;").berth(0, 0, true), 0);
        checks.due("its own deafness is nothing", checks.told(law + "deaf 0;").berth(0, 0, true), 9);
        checks.due("its own CELL as told is nothing", checks.told(law.replace("boat 0 2", "boat 15 2")).berth(0, 0, false), 3);
        checks.due("by its own COAST", checks.told(law.replace("boat 0 2 0", "boat 0 2 1")).berth(0, 0, false), 1);
    }

    private static void pair() {
        checks.sentence("Promise 21", "NONE: both are one, there is none such (of any), or for another what.");
        ShoalClaims x = checks.told("size 8 8;coast 0 1 0 0 1;shoal 63 99 4;shoal 62 98 4;" + "boat 0 0 0;".repeat(6));
        checks.row("PAIR", what -> x.pair(0, 0, 5, what), 62, 63, 197, NONE);
        checks.row("PAIR", what -> x.pair(0, 5, 4, what), 62, 63, 197, NONE);
        checks.same("another what", NONE, what -> x.pair(0, 0, 1, what), -1, 3, 10);
        checks.row("both are one", b -> x.pair(0, b, b, 0), NONE, NONE, NONE, NONE, NONE, NONE, NONE);
        checks.same("no such first BOAT", NONE, b -> x.pair(0, b, 0, 0), -1, 6);
        checks.same("no such second BOAT", NONE, b -> x.pair(0, 0, b, 0), -1, 6);
        checks.same("no such SEA", NONE, sea -> x.pair(sea, 0, 1, 0), -1, 1);
        ShoalClaims two = checks.told("boat 7 0 0;boat 9 0 0;");
        checks.row("no SHOALS", what -> two.pair(0, 0, 1, what), 0, 0, 0, NONE);
        checks.same("a BOAT more", NONE, b -> two.pair(0, b, 0, 2), 2, -1);
        checks.same("a BOAT more", NONE, b -> two.pair(0, 0, b, 2), 2, -1);
    }

    private static void pairByRows() {
        checks.sentence("Terms 3", "have the most FISH together; of several the first by rows.");
        ShoalClaims one = checks.told("coast 0 1 0 0 1;shoal 5 9 4;boat 35 0 0;boat 35 0 0;");
        checks.row("the second one claims", what -> one.pair(0, 0, 1, what), 0, 5, 9);
        ShoalClaims zero = checks.told("coast 0 1 0 0 1;shoal 0 9 4;boat 35 0 0;boat 35 0 0;");
        checks.row("both do", what -> zero.pair(0, 0, 1, what), 0, 0, 9);
        ShoalClaims first = checks.told("coast 0 1 0 0 1;shoal 5 9 4;boat 35 0 0;boat 35 0 1;");
        checks.row("the first one as a witness, 4 from the shoal", what -> first.pair(0, 0, 1, what), 1, 1, 9);
        checks.sentence("Terms 3", "by which SHOALS that one of them could claim so");
        ShoalClaims both = checks.told("size 8 2;coast 0 1 1 0 1;shoal 0 9 4;shoal 7 8 4;boat 3 7 0;boat 4 6 0;");
        checks.row("7 is heard from end to end, 6 is not", what -> both.pair(0, 0, 1, what), 0, 0, 9);
        Checks.tell(both, Checks.SEA, 0, "size 8 2;coast 0 1 1 0 1;shoal 0 9 4;shoal 7 8 4;boat 3 7 0;boat 4 7 0;");
        checks.row("both are heard", what -> both.pair(0, 0, 1, what), 0, 7, 17);
        Checks.tell(both, Checks.SEA, 0, "size 8 2;coast 0 1 1 0 1;shoal 0 9 4;shoal 7 8 4;boat 3 7 0;boat 4 7 0;deaf 1;");
        checks.row("the second one is DEAF", what -> both.pair(0, 0, 1, what), 0, 0, 9);
        checks.row("the first one is DEAF", what -> both.pair(0, 1, 0, what), 0, 0, 9);
        pairWitnesses();
    }

    private static void pairWitnesses() {
        checks.sentence("Terms 3", "PAIR of two BOATS: the two CELLS (of the first, of the second one)");
        // BOATS 0 and 2 want one witness; BOAT 1 wants five, and never has them
        String law = "coast 0 1 1 0 1;coast 1 1 5 0 1;shoal 0 9 4;";
        String sea = law + "boat 3 0 0;boat 4 0 1;boat 5 0 0;";
        int[][] due = {{0, 0, 9}, {0, 0, 9}, {0, 0, 0}, {0, 0, 9}, {0, 0, 9}};
        int[][] boats = {{0, 1}, {0, 1}, {0, 1}, {2, 1}, {2, 1}};
        String[] deaf = {"", "deaf 0;", "deaf 1;", "deaf 2;", "deaf 0;"};
        for (int i = 0; i < due.length; i++) {
            ShoalClaims x = checks.told(sea + deaf[i]);
            int a = boats[i][0];
            int b = boats[i][1];
            checks.row("pair of " + a + " and " + b + ", " + deaf[i], what -> x.pair(0, a, b, what), due[i]);
            checks.row("pair of " + b + " and " + a + ", " + deaf[i], what -> x.pair(0, b, a, what), due[i]);
        }
        ShoalClaims third = checks.told(law + "boat 3 0 0;boat 4 0 1;boat 0 0 1;");
        checks.row("the third one is a witness where it is", what -> third.pair(0, 0, 1, what), 0, 0, 9);
        ShoalClaims deafThird = checks.told(law + "boat 3 0 0;boat 4 0 1;boat 0 0 1;deaf 2;deaf 1;");
        checks.row("not if it is DEAF", what -> deafThird.pair(0, 0, 1, what), 0, 0, 0);
        ShoalClaims away = checks.told(law.replace("shoal 0", "shoal 4") + "boat 3 0 0;boat 4 0 1;deaf 0;");
        checks.row("the second one has to be there, not as told", what -> away.pair(0, 0, 1, what), 4, 4, 9);
    }

    private static void least() {
        checks.sentence("Terms 5", "the least VOICE of its, 0 .. 20, by which it could claim it LAWFULLY at hour 0, all else as told.");
        String wind = "size 8 8;wind 3 3;coast 0 1 1 20 1;shoal 0 1 4;boat 0 0 0;";
        checks.due("20", checks.told(wind + "boat 5 0 0;").least(0, 0, 0), 20);
        checks.due("21", checks.told(wind + "boat 13 0 0;").least(0, 0, 0), NONE);
        checks.due("19", checks.told("size 8 8;wind 3 2;coast 0 1 1 20 1;shoal 0 1 4;boat 0 0 0;boat 14 0 0;").least(0, 0, 0), 19);
        checks.due("0 in one CELL", checks.told(wind + "boat 0 0 0;").least(0, 0, 0), 0);
        checks.due("its own VOICE is nothing", checks.told(wind.replace("boat 0 0", "boat 0 20") + "boat 1 0 0;").least(0, 0, 0), 4);
        checks.due("none is asked for", checks.told("coast 0 1 0 0 1;shoal 0 1 4;boat 0 9 0;").least(0, 0, 0), 0);
        checks.sentence("Promise 26", "NONE: by none, or there is none such (of any).");
        checks.due("too far", checks.told("coast 0 1 0 0 1;shoal 1 1 4;boat 0 9 0;").least(0, 0, 0), NONE);
        checks.due("just near enough", checks.told("coast 0 1 0 1 1;shoal 1 1 4;boat 0 9 0;").least(0, 0, 0), 0);
        checks.due("nobody there to hear", checks.told("shoal 0 1 4;boat 0 20 0;").least(0, 0, 0), NONE);
        String six = "coast 0 1 5 20 1;shoal 0 1 4;boat 0 0 0;boat 1 0 0;boat 2 0 0;boat 3 0 0;boat 4 0 0;boat 5 0 0;";
        checks.due("all five", checks.told(six).least(0, 0, 0), 5);
        checks.due("four of five", checks.told(six.replace("1 5 20", "1 4 20")).least(0, 0, 0), 4);
        checks.due("one is DEAF", checks.told(six + "deaf 1;").least(0, 0, 0), NONE);
        ShoalClaims x = checks.told(six);
        checks.same("no such BOAT", NONE, b -> x.least(0, b, 0), -1, 6);
        checks.same("no such SHOAL", NONE, s -> x.least(0, 0, s), -1, 1, 4, 5);
        checks.same("no such SEA", NONE, sea -> x.least(sea, 0, 0), -1, 1);
    }

    private static void winds() {
        checks.sentence("Terms 5", "(STRENGTH, then side; STRENGTH 0 once) by which BOATS that HEAR others are most couples; of several the first.");
        ShoalClaims x = checks.told("wind 2 3;");
        checks.row("no BOATS", what -> x.winds(0, what), 0, 0, 0, NONE);
        Checks.tell(x, Checks.SEA, 0, "wind 2 3;" + SIX_IN_A_CELL);
        checks.row("all hear all", what -> x.winds(0, what), 0, 0, 30, NONE);
        Checks.tell(x, Checks.SEA, 0, "wind 2 3;" + SIX_IN_A_CELL + "deaf 0;deaf 5;");
        checks.row("but the DEAF ones", what -> x.winds(0, what), 0, 0, 20, NONE);
        Checks.tell(x, Checks.SEA, 0, "wind 1 3;" + CHAIN);
        checks.row("without wind all hear those beside", what -> x.winds(0, what), 0, 0, 10, NONE);
        checks.row("as told they don't", b -> x.hears(0, b, NONE), 2, 4, 8, 16, 32, 0);
        checks.row("the WIND stays as told", what -> x.sea(0, what), 8, 2, 1, 3);
        // one in the middle, the others on its four sides: each wind hinders two couples
        Checks.tell(x, Checks.SEA, 0, "wind 1 3;boat 7 1 0;boat 1 1 0;boat 8 1 0;boat 13 1 0;boat 6 1 0;");
        checks.row("on all sides", what -> x.winds(0, what), 0, 0, 8, NONE);
        checks.row("as told but two", b -> x.hears(0, b, NONE), 14, 1, 0, 1, 1, NONE);
        checks.sentence("Promise 27", "NONE: there is none such, or for another what.");
        checks.same("another what", NONE, what -> x.winds(0, what), -1, 3, 10);
        checks.same("no such SEA", NONE, sea -> x.winds(sea, 0), -1, 1, 2);
    }

    private static void meet() {
        checks.sentence("Terms 5", "the first hour, up to 60, in which both are in one CELL.");
        ShoalClaims x = checks.told("size 8 8;shoal 0 1 1;shoal 7 1 4;shoal 1 1 1;shoal 7 1 3;");
        checks.due("at the far edge", x.meet(0, 0, 1), 7);
        checks.due("the other way round", x.meet(0, 1, 0), 7);
        checks.due("one behind the other, at the edge", x.meet(0, 0, 2), 7);
        checks.due("hour 0", x.meet(0, 1, 3), 0);
        checks.due("in the middle of 1 and 7", x.meet(0, 2, 3), 3);
        checks.due("0 and 7 pass each other", x.meet(0, 0, 3), NONE);
        checks.sentence("Promise 28", "NONE: never up to 60, both are one, or there is none such (of any).");
        checks.row("both are one", s -> x.meet(0, s, s), NONE, NONE, NONE, NONE, NONE);
        checks.same("no such SHOAL", NONE, s -> x.meet(0, s, 0), -1, 4, 5);
        checks.same("no such SHOAL", NONE, s -> x.meet(0, 0, s), -1, 4, 5);
        checks.same("no such SEA", NONE, sea -> x.meet(sea, 1, 3), -1, 1);
        ShoalClaims y = checks.told("size 2 2;shoal 0 1 4;shoal 3 1 0;shoal 3 1 3;shoal 1 1 2;");
        checks.due("they stay in 0 and 1", y.meet(0, 0, 1), NONE);
        checks.due("they stay in 0 and 2", y.meet(0, 0, 2), NONE);
        checks.due("1 and 3 pass each other", y.meet(0, 1, 3), NONE);
        checks.same("no such SHOAL", NONE, s -> checks.told("shoal 0 1 1;").meet(0, 0, s), -1, 0, 1);
        checks.due("south, at the edge", checks.told("size 8 8;shoal 0 1 2;shoal 56 1 2;").meet(0, 0, 1), 7);
        checks.due("north, at the edge", checks.told("size 8 8;shoal 0 1 0;shoal 56 1 0;").meet(0, 0, 1), 7);
        checks.due("west, at the edge", checks.told("size 8 8;shoal 0 1 3;shoal 7 1 3;").meet(0, 0, 1), 7);
    }

    private static void tells() {
        checks.sentence("Terms 5", "to how many others a word of it gets, over others, too.");
        ShoalClaims x = checks.told("boat 0 20 0;");
        checks.due("no others", x.tells(0, 0), 0);
        Checks.tell(x, Checks.SEA, 0, CHAIN);
        checks.row("all others", b -> x.tells(0, b), 5, 5, 5, 5, 5, 5, NONE);
        Checks.tell(x, Checks.SEA, 0, CHAIN.replace("boat 3 1", "boat 3 0"));
        checks.row("not over one without a VOICE", b -> x.tells(0, b), 3, 3, 3, 0, 2, 2, NONE);
        Checks.tell(x, Checks.SEA, 0, CHAIN + "deaf 1;deaf 5;");
        checks.row("not over a DEAF one", b -> x.tells(0, b), 0, 4, 2, 2, 2, 3, NONE);
        checks.sentence("Promise 30", "NONE: there is none such (of either).");
        checks.same("no such BOAT", NONE, b -> x.tells(0, b), -1, 6, 7);
        checks.same("no such SEA", NONE, sea -> x.tells(sea, 0), -1, 1);
        checks.same("no BOATS", NONE, b -> checks.told("").tells(0, b), -1, 0, 1);
    }

    private static void cornersOfTheLargestSea() {
        checks.sentence("Terms 1", "A SEA has W columns and H rows, 2 .. 8 (6 and 6 at first), of CELLS, numbered row by row from 0 on");
        int[] corners = {0, 7, 56, 63};
        int[][] hours = {{0, 7, 7, 14}, {7, 0, 14, 7}, {7, 14, 0, 7}, {14, 7, 7, 0}};
        for (int from = 0; from < 4; from++) {
            for (int to = 0; to < 4; to++) {
                for (int near = 0; near <= 1; near++) {
                    ShoalClaims x = checks.told("size 8 8;coast 0 1 0 " + near + " 1;shoal " + corners[to] + " 9 4;boat "
                        + corners[from] + " 0 0;boat " + corners[from] + " 0 0;");
                    checks.due("hours from " + corners[from] + " to " + corners[to] + ", NEAR " + near, x.soon(0, 0, 0, 0),
                        Math.max(0, hours[from][to] - near));
                    int berth = near == 0 ? corners[to] : new int[] {0, 6, 48, 55}[to];
                    checks.due("berth near " + corners[to], x.berth(0, 0, false), berth);
                    checks.row("pair near " + corners[to], what -> x.pair(0, 0, 1, what), 0, berth, 9);
                }
            }
        }
    }

    /** What one SEA answers is not in the way of what the other one does. */
    private static void seasInTurn() {
        checks.sentence("Terms 1", "SEAS, at most 2 (sort 0)");
        ShoalClaims x = checks.told("size 8 8;coast 0 1 0 20 1;shoal 0 50 4;shoal 1 60 4;shoal 2 70 4;boat 0 20 0;boat 0 20 0;");
        Checks.tell(x, Checks.SEA, NONE, "size 2 2;coast 0 1 0 0 1;shoal 0 1 4;shoal 1 3 4;shoal 2 2 4;boat 3 0 0;boat 3 0 0;");
        for (int round = 0; round < 2; round++) {
            checks.row("BERTH", sea -> x.berth(sea, 0, false), 0, 1, NONE);
            checks.row("its FISH", sea -> x.berth(sea, 0, true), 180, 3, NONE);
            checks.row("PAIR of the large one", what -> x.pair(0, 0, 1, what), 0, 0, 180, NONE);
            checks.row("PAIR of the small one", what -> x.pair(1, 0, 1, what), 1, 2, 5, NONE);
            checks.row("SOON", sea -> x.soon(sea, 0, 1, 0), 0, 1, NONE);
            checks.row("hears", sea -> x.hears(sea, 0, NONE), 2, 2, NONE);
            checks.row("WINDS", sea -> x.winds(sea, 2), 2, 2, NONE);
        }
    }
}
