/** The boundary cases of a DAY on a SEA: "Terms" 2 to 5, promises 12 to 18, 24, 25 and 29. */
public final class EdgesOfDaysTest {
    private static final Checks checks = new Checks();
    private static final int NONE = ShoalClaims.NONE;
    /** One BOAT that can claim all by itself, from anywhere, for long, in CELL 0 with a SHOAL that stays. */
    private static final String FREE = "coast 0 1 0 20 30;shoal 0 9 4;boat 0 0 0;";
    /** Two such BOATS, whose claims hold for three hours. */
    private static final String TWO = "coast 0 1 0 20 3;shoal 0 9 4;boat 0 0 0;boat 0 0 0;";

    private EdgesOfDaysTest() {
    }

    public static void main(String[] args) {
        deed();
        deedNumbers();
        stop();
        noSuchBoat();
        noSuchShoal();
        noCellBeside();
        unlawfulClaimsAreDeeds();
        splitCantBe();
        splitHalves();
        splitDrifts();
        splitNumbers();
        netCantBe();
        drifting();
        states();
        stateNoneSuch();
        holdHours();
        heldByAnother();
        heldAnew();
        enoughSyllables();
        enoughWitnesses();
        nearEnough();
        lawOfItsCoast();
        has();
        hasAlone();
        claimed();
        claimedNone();
        shares();
        sharesCut();
        sharesNone();
        twice();
        gullsBounds();
        gullsDraws();
        gullsWrapAround();
        gullsWhoeverSpeaks();
        gullsInEachClaim();
        gullsOfAnAll();
        gullsStop();
        lack();
        sum();
        sumOfSeveral();
        checks.finish();
    }

    private static void deed() {
        checks.sentence("Terms 1", "A DAY has DEEDS, at most 30, from 0 on.");
        checks.due("no DEEDS", checks.told("", "").deed(0, NONE, 0), 0);
        ShoalClaims x = checks.told("", "wait;".repeat(29) + "claim 5 4 20;", "row 1 2;");
        checks.due("30 DEEDS", x.deed(0, NONE, 0), 30);
        checks.due("one DEED", x.deed(1, NONE, 0), 1);
        checks.row("the last DEED", what -> x.deed(0, 29, what), 1, 5, 4, 20, -2);
        checks.sentence("Promise 12", "How many DEEDS (k NONE, what 0); of DEED k, what 0");
        checks.due("the first DEED", x.deed(1, 0, 0), 0);
        checks.sentence("Promise 12", "-2: there is none such (of either), or for another what.");
        checks.same("NONE with another what", -2, what -> x.deed(0, NONE, what), -1, 1, 2, 3, 4);
        checks.same("no such DEED", -2, k -> x.deed(0, k, 0), -2, -3, 30, 31);
        checks.same("no such DEED", -2, k -> x.deed(1, k, 0), -2, 1, 2, 29);
        checks.same("no such DAY", -2, day -> x.deed(day, 0, 0), -1, 2, 3);
        checks.same("no such DAY", -2, day -> x.deed(day, NONE, 0), -1, 2, 3);
        checks.same("another what", -2, what -> x.deed(0, 29, what), -1, 4, 5);
        checks.same("no DEEDS", -2, k -> checks.told("", "").deed(0, k, 0), -2, 0, 1);
    }

    private static void deedNumbers() {
        checks.sentence("Promise 12", "1, 2, 3: its numbers as told (NONE without).");
        ShoalClaims x = checks.told("", "row 5 3;claim 4 3 2;all 3 20;split 2 5;net 1 4;wait;row 0 0;");
        int[][] due = {{0, 5, 3, NONE}, {1, 4, 3, 2}, {2, 3, 20, NONE}, {3, 2, 5, NONE}, {4, 1, 4, NONE},
            {5, NONE, NONE, NONE}, {0, 0, 0, NONE}, {-2, -2, -2, -2}};
        for (int k = 0; k < due.length; k++) {
            int deed = k;
            checks.row("deed " + k, what -> x.deed(0, deed, what), due[k]);
        }
    }

    private static void stopsAt(String sea, String day, int want) {
        ShoalClaims x = checks.told(sea, day);
        checks.due("stop of [" + day + "] on [" + sea + "]", x.stop(0, 0), want);
    }

    private static void stop() {
        checks.sentence("Terms 2", "STOP: the first DEED that can't be, else how many there are.");
        stopsAt("", "", 0);
        stopsAt("", "wait;", 1);
        stopsAt("", "wait;".repeat(30), 30);
        stopsAt(FREE, "wait;".repeat(29) + "row 0 0;", 29);
        stopsAt(FREE, "row 0 0;" + "wait;".repeat(29), 0);
        stopsAt(FREE, "wait;row 0 0;row 0 0;wait;", 1);
        checks.sentence("Promise 13", "NONE: there is none such (of either).");
        ShoalClaims x = checks.told("", "");
        checks.same("no such SEA", NONE, sea -> x.stop(sea, 0), -1, 1, 2);
        checks.same("no such DAY", NONE, day -> x.stop(0, day), -1, 1, 2);
        Checks.tell(x, Checks.SEA, NONE, FREE);
        Checks.tell(x, Checks.DAY, NONE, "wait;row 0 1;row 0 0;");
        checks.row("the second DAY on each SEA", sea -> x.stop(sea, 1), 1, 2, NONE);
    }

    private static void noSuchBoat() {
        checks.sentence("Terms 2", "A DEED can't be, if there is no such BOAT or SHOAL");
        String[] deeds = {"row # 1;", "claim # 0 1;", "all # 1;", "split # 0;", "net # 0;"};
        for (String deed : deeds) {
            for (int boats = 0; boats <= 6; boats++) {
                // each BOAT in its turn HOLDS the SHOAL for one hour, so that its split can be
                String sea = "coast 0 1 0 20 1;shoal 0 9 4;" + "boat 0 0 0;".repeat(boats);
                for (int b = 0; b < 6; b++) {
                    stopsAt(sea, "claim " + b + " 0 1;" + deed.replace("#", "" + b), b < boats ? 2 : 0);
                    if (b >= boats) {
                        stopsAt(sea, "wait;" + deed.replace("#", "" + b), 1);
                    }
                }
            }
        }
        stopsAt("", "wait;wait;", 2);
    }

    private static void noSuchShoal() {
        checks.sentence("Terms 2", "A DEED can't be, if there is no such BOAT or SHOAL");
        String law = "coast 0 1 0 20 30;boat 0 0 0;";
        for (int shoals = 0; shoals <= 4; shoals++) {
            String sea = law + "shoal 0 9 4;".repeat(shoals);
            for (int s = 0; s < 6; s++) {
                stopsAt(sea, "all 0 1;claim 0 " + s + " 1;", s < shoals ? 2 : 1);
                stopsAt(sea, "all 0 1;split 0 " + s + ";", s < shoals ? 2 : 1);
                stopsAt(sea, "all 0 1;net 0 " + s + ";", s < shoals ? 2 : 1);
            }
            stopsAt(sea, "all 0 1;", 1);
        }
        checks.sentence("Terms 2", "net: the BOAT takes a SHOAL whose CELL is its own: it is not there any more.");
        stopsAt(FREE, "net 0 0;net 0 0;", 1);
        stopsAt(FREE, "net 0 0;claim 0 0 1;", 1);
        stopsAt(FREE, "claim 0 0 1;net 0 0;split 0 0;", 2);
        stopsAt(FREE, "net 0 0;all 0 1;wait;", 3);
        stopsAt(FREE, "claim 0 0 1;split 0 0;net 0 1;net 0 1;", 3);
    }

    private static void noCellBeside() {
        checks.sentence("Terms 2", "row: the BOAT goes to the CELL beside");
        for (int cell = 0; cell < 6; cell++) {
            int row = cell / 3;
            int column = cell % 3;
            boolean[] can = {row > 0, column < 2, row < 1, column > 0};
            int[] beside = {cell - 3, cell + 1, cell + 3, cell - 1};
            for (int side = 0; side < 4; side++) {
                ShoalClaims x = checks.told("size 3 2;boat " + cell + " 0 0;", "row 0 " + side + ";");
                checks.due("row from " + cell + " to " + side, x.stop(0, 0), can[side] ? 1 : 0);
                checks.due("its CELL behind that", x.has(0, 0, 1, 0, 0), can[side] ? beside[side] : -2);
                checks.due("its CELL ahead of that", x.has(0, 0, 0, 0, 0), cell);
            }
        }
        checks.sentence("Terms 2", "A DEED can't be, if there is no such BOAT or SHOAL, no CELL beside");
        stopsAt("size 8 8;boat 0 0 0;", "row 0 1;".repeat(8), 7);
        stopsAt("size 8 8;boat 0 0 0;", "row 0 2;".repeat(8), 7);
        stopsAt("size 8 8;boat 63 0 0;", "row 0 3;".repeat(8), 7);
        stopsAt("size 8 8;boat 63 0 0;", "row 0 0;".repeat(8), 7);
    }

    private static void unlawfulClaimsAreDeeds() {
        checks.sentence("Terms 2", "(a claim that is not LAWFUL is a DEED all the same, as is an all)");
        stopsAt(TWO, "claim 0 0 1;claim 1 0 1;all 1 1;wait;", 4);
        stopsAt("coast 0 20 0 20 1;shoal 0 9 4;boat 0 0 0;", "claim 0 0 19;all 0 1;", 2);
        stopsAt("coast 0 1 5 20 1;shoal 0 9 4;boat 0 0 0;", "claim 0 0 1;all 0 1;", 2);
        stopsAt("coast 0 1 0 0 1;shoal 1 9 4;boat 0 0 0;", "claim 0 0 1;all 0 1;", 2);
        stopsAt("boat 0 0 0;", "all 0 1;", 1);
    }

    private static void splitCantBe() {
        checks.sentence("Terms 2", "if split's SHOAL is not HELD by it, has less than 2 FISH, or there is no number left");
        stopsAt(TWO, "split 0 0;", 0);
        stopsAt(TWO, "claim 1 0 1;split 0 0;", 1);
        stopsAt(TWO, "claim 1 0 1;split 1 0;", 2);
        stopsAt(TWO, "claim 0 0 1;wait;wait;split 0 0;", 4);
        stopsAt(TWO, "claim 0 0 1;wait;wait;wait;split 0 0;", 4);
        stopsAt(TWO, "claim 0 0 1;split 0 0;split 0 1;", 2);
        String fish = "coast 0 1 0 20 30;shoal 0 # 4;boat 0 0 0;";
        stopsAt(fish.replace("#", "1"), "claim 0 0 1;split 0 0;", 1);
        stopsAt(fish.replace("#", "2"), "claim 0 0 1;split 0 0;split 0 0;", 2);
        stopsAt(fish.replace("#", "3"), "claim 0 0 1;split 0 0;split 0 0;split 0 0;", 3);
        for (int shoals = 1; shoals <= 4; shoals++) {
            String sea = "coast 0 1 0 20 30;boat 0 0 0;" + "shoal 0 99 4;".repeat(shoals);
            stopsAt(sea, "all 0 1;" + "split 0 0;".repeat(6), 1 + 6 - shoals);
        }
    }

    private static void splitHalves() {
        checks.sentence("Terms 2", "of a SHOAL with 2 FISH at least that the BOAT HOLDS, half, cut, is a further SHOAL");
        int[][] due = {{2, 1, 1}, {3, 2, 1}, {4, 2, 2}, {5, 3, 2}, {98, 49, 49}, {99, 50, 49}};
        for (int[] d : due) {
            ShoalClaims x = checks.told("coast 0 1 0 20 30;shoal 7 " + d[0] + " 4;boat 0 0 0;", "claim 0 0 5;split 0 0;");
            checks.due("STOP", x.stop(0, 0), 2);
            checks.row("the first of " + d[0], what -> x.state(0, 0, 2, 0, what), 7, d[1], 0, 5, 29, 4);
            checks.sentence("Terms 2", "in its CELL, its DRIFT the other way (none: none), HELD by nobody");
            checks.row("the second of " + d[0], what -> x.state(0, 0, 2, 1, what), 7, d[2], NONE, 0, 0, 4);
            checks.due("not there ahead of it", x.state(0, 0, 1, 1, 0), -2);
            checks.due("what the BOAT HOLDS", x.has(0, 0, 2, 0, 3), 1);
        }
    }

    private static void splitDrifts() {
        checks.sentence("Terms 2", "its DRIFT the other way (none: none)");
        int[] other = {2, 3, 0, 1, 4};
        // behind the claim the shoal has gone one way, behind the split one more; the half goes back
        int[] first = {2, 14, 22, 10, 12};
        int[] half = {12, 12, 12, 12, 12};
        for (int drift = 0; drift <= 4; drift++) {
            ShoalClaims x = checks.told("size 5 5;coast 0 1 0 20 30;shoal 12 9 " + drift + ";boat 0 0 0;", "claim 0 0 1;split 0 0;");
            checks.due("DRIFT", x.state(0, 0, 2, 0, 5), drift);
            checks.due("DRIFT of the half", x.state(0, 0, 2, 1, 5), other[drift]);
            checks.due("CELL", x.state(0, 0, 2, 0, 0), first[drift]);
            checks.due("CELL of the half", x.state(0, 0, 2, 1, 0), half[drift]);
        }
    }

    private static void splitNumbers() {
        checks.sentence("Terms 2", "(the next number, up to 5)");
        ShoalClaims x = checks.told("coast 0 1 0 20 30;shoal 0 64 4;boat 0 0 0;", "claim 0 0 1;" + "split 0 0;".repeat(6));
        checks.due("five halves", x.stop(0, 0), 6);
        checks.row("FISH", s -> x.state(0, 0, 6, s, 1), 2, 32, 16, 8, 4, 2, -2);
        checks.row("FISH a split ahead of it", s -> x.state(0, 0, 5, s, 1), 4, 32, 16, 8, 4, -2, -2);
        checks.sentence("Terms 2", "Numbers are not given again.");
        ShoalClaims y = checks.told("coast 0 1 0 20 30;shoal 0 64 4;boat 0 0 0;",
            "claim 0 0 1;split 0 0;net 0 1;split 0 0;net 0 2;split 0 0;net 0 3;split 0 0;net 0 4;split 0 0;net 0 5;split 0 0;");
        checks.due("no number left, though five are free", y.stop(0, 0), 11);
        checks.row("the second half is 2", s -> y.state(0, 0, 4, s, 1), 32 / 2, -2, 16, -2, -2, -2);
        checks.row("the fifth half is 5", s -> y.state(0, 0, 10, s, 1), 2, -2, -2, -2, -2, 2, -2);
        stopsAt("coast 0 1 0 20 30;" + "shoal 0 9 4;".repeat(4) + "boat 0 0 0;", "net 0 3;all 0 1;split 0 0;split 0 1;split 0 2;", 4);
    }

    private static void netCantBe() {
        checks.sentence("Terms 2", "if net's CELLS are unlike");
        for (int cell = 0; cell < 4; cell++) {
            for (int other = 0; other < 4; other++) {
                stopsAt("size 2 2;shoal " + cell + " 1 4;boat " + other + " 0 0;", "net 0 0;", cell == other ? 1 : 0);
            }
        }
        stopsAt("shoal 0 1 1;boat 0 0 0;", "net 0 0;", 1);
        stopsAt("shoal 0 1 1;boat 0 0 0;", "wait;net 0 0;", 1);
        stopsAt("shoal 0 1 1;boat 1 0 0;", "wait;net 0 0;", 2);
        stopsAt("shoal 0 1 1;boat 0 0 0;", "row 0 1;net 0 0;", 2);
    }

    private static void drifting() {
        checks.sentence("Terms 2", "drift a CELL to their side (at the edge they stay)");
        int[][] cells = {{4, 1, 1, 1}, {4, 5, 5, 5}, {4, 7, 7, 7}, {4, 3, 3, 3}, {4, 4, 4, 4}};
        for (int drift = 0; drift <= 4; drift++) {
            ShoalClaims x = checks.told("size 3 3;shoal 4 1 " + drift + ";", "wait;wait;wait;");
            checks.row("CELL", n -> x.state(0, 0, n, 0, 0), cells[drift][0], cells[drift][1], cells[drift][2], cells[drift][3], -2);
            checks.due("DRIFT at the edge", x.state(0, 0, 3, 0, 5), drift);
        }
        checks.sentence("Terms 2", "behind each DEED all SHOALS that are there drift a CELL");
        for (String deed : new String[] {"wait;", "row 0 1;", "claim 0 1 1;", "all 0 1;", "split 0 2;", "net 0 0;", "claim 0 1 20;"}) {
            String sea = "coast 0 2 0 20 30;shoal 0 1 4;shoal 1 9 1;shoal 13 9 3;boat 0 0 0;";
            ShoalClaims x = checks.told(sea, "claim 0 2 2;" + deed);
            checks.row("CELL of the second behind [" + deed + "]", n -> x.state(0, 0, n, 1, 0), 1, 2, 3, -2);
            checks.row("CELL of the third behind [" + deed + "]", n -> x.state(0, 0, n, 2, 0), 13, 12, 12, -2);
        }
        ShoalClaims y = checks.told("size 8 8;shoal 56 1 1;shoal 7 1 2;shoal 63 1 0;shoal 63 1 3;", "wait;".repeat(9));
        checks.row("behind seven hours", s -> y.state(0, 0, 7, s, 0), 63, 63, 7, 56, -2);
        checks.row("behind nine hours", s -> y.state(0, 0, 9, s, 0), 63, 63, 7, 56, -2);
        checks.row("behind six hours", s -> y.state(0, 0, 6, s, 0), 62, 55, 15, 57, -2);
    }

    private static void states() {
        checks.sentence("Terms 2", "A STATE is behind the first n DEEDS, n up to STOP (their drifting, too), as of hour n.");
        ShoalClaims empty = checks.told(FREE, "");
        checks.row("an empty DAY", n -> empty.state(0, 0, n, 0, 1), 9, -2);
        ShoalClaims x = checks.told(FREE, "wait;row 0 1;row 0 0;wait;", "wait;".repeat(30));
        checks.row("up to STOP", n -> x.state(0, 0, n, 0, 1), 9, 9, 9, -2, -2, -2);
        checks.row("up to STOP", n -> x.has(0, 0, n, 0, 0), 0, 0, 1, -2, -2, -2);
        checks.row("up to STOP", n -> x.lack(0, 0, n, 0, 0), 0, 0, 0, NONE, NONE, NONE);
        checks.due("behind the 30th", x.state(0, 1, 30, 0, 1), 9);
        checks.same("no such STATE", -2, n -> x.state(0, 1, n, 0, 1), -1, -2, 31, 32);
        checks.same("no such STATE", -2, n -> x.has(0, 1, n, 0, 0), -1, -2, 31, 32);
        checks.same("no such STATE", NONE, n -> x.lack(0, 1, n, 0, 0), -1, -2, 31, 32);
    }

    private static void stateNoneSuch() {
        checks.sentence("Promise 14", "-2: it is not there, there is no such STATE, or for another what.");
        ShoalClaims x = checks.told("shoal 3 9 1;shoal 4 8 2;boat 3 0 0;", "net 0 0;");
        checks.row("as told", s -> x.state(0, 0, 0, s, 1), 9, 8, -2, -2, -2, -2, -2);
        checks.row("netted", s -> x.state(0, 0, 1, s, 1), -2, 8, -2, -2, -2, -2, -2);
        checks.row("of the netted one", what -> x.state(0, 0, 1, 0, what), -2, -2, -2, -2, -2, -2, -2);
        checks.sentence("Promise 14", "Of a SHOAL, 0 .. 5, in a STATE");
        checks.same("no such SHOAL", -2, s -> x.state(0, 0, 0, s, 0), -1, 2, 5, 6, 32);
        checks.sentence("Promise 14", "there is no such STATE, or for another what.");
        checks.same("another what", -2, what -> x.state(0, 0, 0, 0, what), -1, 6, 7);
        checks.same("no such SEA", -2, sea -> x.state(sea, 0, 0, 0, 0), -1, 1);
        checks.same("no such DAY", -2, day -> x.state(0, day, 0, 0, 0), -1, 1);
        checks.same("no such STATE", -2, n -> x.state(0, 0, n, 1, 0), -1, 2);
        checks.sentence("Promise 14", "2: who HOLDS it (NONE), 3: with how many syllables (0 without), 4: in how many hours from that one on (0 without)");
        checks.row("HELD by nobody", what -> x.state(0, 0, 0, 0, what), 3, 9, NONE, 0, 0, 1, -2);
    }

    private static void holdHours() {
        checks.sentence("Terms 2", "Then the BOAT HOLDS it, with these syllables, in HOLD further hours behind that one");
        for (int hold : new int[] {1, 2, 3, 29, 30}) {
            ShoalClaims x = checks.told("coast 0 1 0 20 " + hold + ";shoal 0 9 4;boat 0 0 0;", "claim 0 0 20;" + "wait;".repeat(29));
            checks.row("ahead of the claim", what -> x.state(0, 0, 0, 0, what), 0, 9, NONE, 0, 0, 4);
            for (int n = 1; n <= 30; n++) {
                int hour = n;
                boolean held = n <= hold;
                int[] due = {0, 9, held ? 0 : NONE, held ? 20 : 0, held ? hold - n + 1 : 0, 4};
                checks.row("HOLD " + hold + ", hour " + n, what -> x.state(0, 0, hour, 0, what), due);
                checks.due("HOLD " + hold + ", hour " + n + ", has", x.has(0, 0, n, 0, 3), held ? 1 : 0);
            }
        }
    }

    private static void heldByAnother() {
        checks.sentence("Terms 2", "A claim is LAWFUL, if nobody else HOLDS the SHOAL at that hour");
        for (int waits = 0; waits <= 4; waits++) {
            ShoalClaims x = checks.told(TWO, "claim 0 0 1;" + "wait;".repeat(waits) + "claim 1 0 2;");
            boolean free = waits >= 3;
            checks.due(waits + " hours between", x.claimed(0, 0, waits + 1, false), free ? 1 : 0);
            checks.due("who HOLDS it", x.state(0, 0, waits + 2, 0, 2), free ? 1 : waits < 2 ? 0 : NONE);
            checks.due("TWICE", x.twice(0, 0), free ? 0 : 1);
            checks.due("LACK", x.lack(0, 0, waits + 1, 1, 0), free ? 0 : 1);
            checks.due("ALONE", x.has(0, 0, waits + 1, 1, 2), free ? 1 : 0);
            checks.due("ALONE of the first one", x.has(0, 0, waits + 1, 0, 2), 1);
        }
    }

    private static void heldAnew() {
        checks.sentence("Terms 2", "(anew, if it did)");
        ShoalClaims x = checks.told(TWO, "claim 0 0 9;wait;wait;claim 0 0 2;wait;wait;wait;wait;");
        checks.row("who", n -> x.state(0, 0, n, 0, 2), NONE, 0, 0, 0, 0, 0, 0, NONE, NONE);
        checks.row("syllables", n -> x.state(0, 0, n, 0, 3), 0, 9, 9, 9, 2, 2, 2, 0, 0);
        checks.row("hours", n -> x.state(0, 0, n, 0, 4), 0, 3, 2, 1, 3, 2, 1, 0, 0);
        checks.due("both claims were LAWFUL", x.has(0, 0, 8, 0, 4), 2);
        // an unlawful claim of its own takes nothing away
        ShoalClaims y = checks.told(TWO.replace("coast 0 1 0", "coast 0 5 0"), "claim 0 0 5;claim 0 0 4;wait;wait;");
        checks.row("who", n -> y.state(0, 0, n, 0, 2), NONE, 0, 0, 0, NONE);
        checks.row("syllables", n -> y.state(0, 0, n, 0, 3), 0, 5, 5, 5, 0);
    }

    private static void enoughSyllables() {
        checks.sentence("Terms 2", "its syllables are SYLLABLES at least");
        for (int law : new int[] {1, 2, 19, 20}) {
            for (int said : new int[] {1, 2, 3, 18, 19, 20}) {
                String sea = "coast 0 " + law + " 0 20 1;shoal 0 9 4;boat 0 0 0;";
                ShoalClaims x = checks.told(sea, "claim 0 0 " + said + ";", "all 0 " + said + ";");
                checks.row(said + " of " + law, day -> x.claimed(0, day, 0, false), said >= law ? 1 : 0, said >= law ? 1 : 0);
                checks.row("how many LAWFUL", day -> x.has(0, day, 1, 0, 4), said >= law ? 1 : 0, said >= law ? 1 : 0);
            }
        }
    }

    private static void enoughWitnesses() {
        checks.sentence("Terms 2", "as many other BOATS HEAR it as WITNESSES at least");
        for (int asked = 0; asked <= 5; asked++) {
            for (int others = 0; others <= 5; others++) {
                String sea = "coast 0 1 " + asked + " 20 1;shoal 0 9 4;boat 0 1 0;" + "boat 1 0 0;".repeat(others);
                ShoalClaims x = checks.told(sea, "claim 0 0 1;");
                checks.due(others + " of " + asked, x.claimed(0, 0, 0, false), others >= asked ? 1 : 0);
                checks.due("LACK", x.lack(0, 0, 0, 0, 0), others >= asked ? 0 : 2);
                checks.due("ALONE", x.has(0, 0, 0, 0, 2), others >= asked ? 1 : 0);
            }
        }
        String one = "coast 0 1 1 20 1;shoal 0 9 4;boat 0 1 0;boat 1 0 0;";
        checks.due("as loud as needed", checks.told(one, "claim 0 0 1;").claimed(0, 0, 0, false), 1);
        checks.due("one less", checks.told(one.replace("boat 0 1", "boat 0 0"), "claim 0 0 1;").claimed(0, 0, 0, false), 0);
        checks.due("a DEAF one", checks.told(one + "deaf 1;", "claim 0 0 1;").claimed(0, 0, 0, false), 0);
        checks.due("it rowed away", checks.told(one, "row 1 1;claim 0 0 1;").claimed(0, 0, 1, false), 0);
        checks.due("it rowed near", checks.told(one.replace("boat 1 0", "boat 2 0"), "row 1 3;claim 0 0 1;").claimed(0, 0, 1, false), 1);
    }

    private static void nearEnough() {
        checks.sentence("Terms 2", "FAR from the BOAT's CELL to the SHOAL's is not above NEAR");
        for (int near = 0; near <= 8; near++) {
            for (int cell = 0; cell < 8; cell++) {
                ShoalClaims x = checks.told("size 8 2;coast 0 1 0 " + near + " 1;shoal " + cell + " 9 4;boat 0 0 0;", "claim 0 0 1;");
                checks.due(cell + " far, NEAR " + near, x.claimed(0, 0, 0, false), cell <= near ? 1 : 0);
                checks.due("LACK", x.lack(0, 0, 0, 0, 0), cell <= near ? 0 : 4);
            }
        }
        String wind = "size 8 8;wind 3 3;coast 0 1 0 20 1;boat # 0 0;shoal $ 9 4;";
        int[][] due = {{0, 5, 1}, {0, 13, 0}, {0, 6, 0}, {5, 0, 1}, {63, 0, 1}, {0, 63, 0}};
        for (int[] d : due) {
            ShoalClaims x = checks.told(wind.replace("#", "" + d[0]).replace("$", "" + d[1]), "claim 0 0 1;");
            checks.due("from " + d[0] + " to " + d[1], x.claimed(0, 0, 0, false), d[2]);
        }
    }

    private static void lawOfItsCoast() {
        checks.sentence("Terms 2", "all by the law of the BOAT's COAST");
        String sea = "coast 0 2 0 20 4;coast 1 1 1 20 5;coast 2 1 0 0 6;shoal 1 9 4;boat 0 0 0;boat 0 0 1;boat 0 0 2;boat 1 0 2;";
        ShoalClaims x = checks.told(sea, "claim 0 0 1;claim 1 0 1;", "claim 2 0 1;claim 3 0 1;");
        checks.due("COAST 0 wants two syllables", x.claimed(0, 0, 0, false), 0);
        checks.due("COAST 1 has witnesses", x.claimed(0, 0, 1, false), 1);
        checks.due("COAST 1 HOLDS for 5", x.state(0, 0, 2, 0, 4), 5);
        checks.due("COAST 2 is not NEAR", x.claimed(0, 1, 0, false), 0);
        checks.due("COAST 2 is NEAR", x.claimed(0, 1, 1, false), 1);
        checks.due("COAST 2 HOLDS for 6", x.state(0, 1, 2, 0, 4), 6);
    }

    private static void has() {
        checks.sentence("Promise 15", "-2: there is no such STATE, BOAT, or for another what.");
        ShoalClaims x = checks.told(TWO, "all 0 1;net 0 0;");
        checks.row("ahead of all", what -> x.has(0, 0, 0, 0, what), 0, 0, 1, 0, 0, -2);
        checks.row("HOLDS it", what -> x.has(0, 0, 1, 0, what), 0, 0, 1, 1, 1, -2);
        checks.row("netted: not HELD, not to be claimed", what -> x.has(0, 0, 2, 0, what), 0, 9, 0, 0, 1, -2);
        checks.same("no such STATE", -2, n -> x.has(0, 0, n, 0, 0), -1, 3);
        checks.same("no such BOAT", -2, b -> x.has(0, 0, 0, b, 0), -1, 2, 5, 6);
        checks.same("another what", -2, what -> x.has(0, 0, 0, 0, what), -1, 5, 6);
        checks.same("no such SEA", -2, sea -> x.has(sea, 0, 0, 0, 0), -1, 1);
        checks.same("no such DAY", -2, day -> x.has(0, day, 0, 0, 0), -1, 1);
        checks.sentence("Promise 15", "4: how many of its claims were LAWFUL (each SHOAL of an all, by itself).");
        String six = "coast 0 1 0 20 30;" + "shoal 0 99 4;".repeat(4) + "boat 0 0 0;boat 0 0 0;";
        ShoalClaims y = checks.told(six, "all 0 1;split 0 0;split 0 1;all 0 1;all 1 1;net 1 2;all 0 1;");
        checks.row("four, then six, then five", n -> y.has(0, 0, n, 0, 4), 0, 4, 4, 4, 10, 10, 10, 15, -2);
        checks.row("the other one's none", n -> y.has(0, 0, n, 1, 4), 0, 0, 0, 0, 0, 0, 0, 0, -2);
        checks.row("SHOALS it HOLDS", n -> y.has(0, 0, n, 0, 3), 0, 15, 15, 15, 63, 63, 59, 59, -2);
        checks.row("ALONE", n -> y.has(0, 0, n, 1, 2), 15, 0, 16, 48, 0, 0, 0, 0, -2);
        checks.row("FISH of both", n -> y.has(0, 0, n, 0, 1) + y.has(0, 0, n, 1, 1), 0, 0, 0, 0, 0, 0, 99, 99);
    }

    private static void hasAlone() {
        checks.sentence("Terms 3", "SHOALS (bits) it could claim LAWFULLY now, with syllables as many as SYLLABLES.");
        ShoalClaims x = checks.told("size 8 2;coast 0 20 0 2 1;shoal 0 1 4;shoal 2 1 4;shoal 3 1 4;shoal 7 1 1;boat 0 0 0;", "row 0 1;row 0 1;row 0 1;row 0 1;row 0 1;");
        checks.row("up to 2 far", n -> x.has(0, 0, n, 0, 2), 3, 7, 7, 6, 6, 12, -2);
        checks.due("no SHOALS", checks.told("coast 0 1 0 20 1;boat 0 0 0;", "").has(0, 0, 0, 0, 2), 0);
    }

    private static void claimed() {
        checks.sentence("Promise 16", "SHOALS (bits) that DEED k, a claim or an all, claimed LAWFULLY, or (witness) BOATS (bits) that HEARD it.");
        String sea = "coast 0 2 0 20 30;" + "shoal 0 99 4;".repeat(4) + "boat 0 0 0;".repeat(6);
        ShoalClaims x = checks.told(sea, "all 0 2;split 0 0;split 0 1;claim 5 5 2;all 5 1;all 5 2;claim 0 3 1;");
        checks.row("claimed", k -> x.claimed(0, 0, k, false), 15, NONE, NONE, 32, 0, 48, 0, NONE);
        checks.row("HEARD", k -> x.claimed(0, 0, k, true), 62, NONE, NONE, 31, 31, 31, 62, NONE);
        ShoalClaims y = checks.told("coast 0 1 0 0 1;shoal 7 1 4;boat 0 20 0;", "claim 0 0 1;all 0 1;");
        checks.row("nothing claimed", k -> y.claimed(0, 0, k, false), 0, 0, NONE);
        checks.row("nobody HEARD it", k -> y.claimed(0, 0, k, true), 0, 0, NONE);
        ShoalClaims z = checks.told("boat 0 0 0;boat 0 0 0;", "all 0 1;");
        checks.due("an all without SHOALS claims none", z.claimed(0, 0, 0, false), 0);
        checks.due("an all without SHOALS is HEARD", z.claimed(0, 0, 0, true), 2);
    }

    private static void claimedNone() {
        checks.sentence("Promise 16", "NONE: it is none, not ahead of STOP, or there is none such (of any).");
        ShoalClaims x = checks.told(FREE, "claim 0 0 1;row 0 1;row 0 3;split 0 0;net 0 1;wait;all 0 1;claim 0 1 1;claim 0 0 1;");
        checks.due("STOP", x.stop(0, 0), 7);
        checks.row("claimed", k -> x.claimed(0, 0, k, false), 1, NONE, NONE, NONE, NONE, NONE, 1, NONE, NONE, NONE);
        checks.row("HEARD", k -> x.claimed(0, 0, k, true), 0, NONE, NONE, NONE, NONE, NONE, 0, NONE, NONE, NONE);
        checks.same("no such DEED", NONE, k -> x.claimed(0, 0, k, false), -1, -2, 9, 30);
        checks.same("no such DEED", NONE, k -> x.claimed(0, 0, k, true), -1, -2, 9, 30);
        checks.same("no such SEA", NONE, sea -> x.claimed(sea, 0, 0, true), -1, 1);
        checks.same("no such DAY", NONE, day -> x.claimed(0, day, 0, true), -1, 1);
        ShoalClaims last = checks.told(FREE, "wait;".repeat(29) + "claim 0 0 1;");
        checks.due("the 30th DEED", last.claimed(0, 0, 29, false), 1);
    }

    /** What BOAT 1 gets, who HELD it, and what that one gets, where BOAT 0 or nobody claimed and BOAT 1 nets. */
    private static void sharesAre(String sea, String day, int... want) {
        ShoalClaims x = checks.told(sea, day);
        int k = x.deed(0, NONE, 0) - 1;
        checks.row("shares of [" + day + "] on [" + sea + "]", what -> x.shares(0, 0, k, what), want);
    }

    private static void shares() {
        checks.sentence("Terms 2", "of a SHOAL netted by a BOAT that HOLDS it, or that nobody HOLDS: all FISH to it.");
        sharesAre(TWO, "claim 0 0 1;net 0 0;", 9, 0, 9, -2);
        checks.sentence("Promise 17", "1: who HELD it (NONE: nobody), 2: FISH of that one.");
        sharesAre(TWO, "net 1 0;", 9, NONE, 0, -2);
        sharesAre(TWO, "claim 1 0 1;net 1 0;", 9, 1, 9, -2);
        sharesAre(TWO, "claim 0 0 1;wait;wait;net 1 0;", 8, 0, 1, -2);
        sharesAre(TWO, "claim 0 0 1;wait;wait;wait;net 1 0;", 9, NONE, 0, -2);
        sharesAre(TWO, "claim 1 0 1;wait;wait;net 1 0;", 9, 1, 9, -2);
        sharesAre(TWO, "claim 1 0 1;wait;wait;wait;net 1 0;", 9, NONE, 0, -2);
        sharesAre(TWO, "claim 0 0 20;claim 1 0 20;net 1 0;", 2, 0, 7, -2);
        sharesAre(TWO, "claim 0 0 20;split 0 0;net 1 1;", 4, NONE, 0, -2);
        sharesAre(TWO, "claim 0 0 4;split 0 0;net 1 0;", 3, 0, 2, -2);
    }

    private static void sharesCut() {
        checks.sentence("Terms 2", "who HOLDS it has FISH times his syllables, by these and NETS together, cut; the netter the others.");
        int[][] due = {{99, 20, 1, 94}, {99, 1, 9, 9}, {99, 1, 1, 49}, {1, 20, 1, 0}, {1, 1, 9, 0}, {2, 1, 1, 1},
            {99, 20, 9, 68}, {10, 4, 1, 8}, {9, 4, 1, 7}, {50, 9, 9, 25}};
        for (int[] d : due) {
            String sea = "nets " + d[2] + ";coast 0 1 0 20 9;shoal 0 " + d[0] + " 4;boat 0 0 0;boat 0 0 0;";
            String day = "claim 0 0 " + d[1] + ";net 1 0;";
            sharesAre(sea, day, d[0] - d[3], 0, d[3], -2);
            ShoalClaims x = checks.told(sea, day);
            checks.due("what the netter has", x.has(0, 0, 2, 1, 1), d[0] - d[3]);
            checks.due("what the holder has", x.has(0, 0, 2, 0, 1), d[3]);
        }
    }

    private static void sharesNone() {
        checks.sentence("Promise 17", "-2: it is none, not ahead of STOP, there is none such (of any), or for another what.");
        ShoalClaims x = checks.told(FREE, "claim 0 0 1;all 0 1;row 0 1;row 0 3;split 0 0;wait;net 0 0;row 0 1;net 0 1;");
        checks.due("STOP", x.stop(0, 0), 8);
        for (int what = 0; what < 3; what++) {
            int w = what;
            checks.row("but the net", k -> x.shares(0, 0, k, w), -2, -2, -2, -2, -2, -2, w == 1 ? 0 : 5, -2, -2, -2);
            checks.same("no such DEED", -2, k -> x.shares(0, 0, k, w), -1, -2, 9, 10, 30);
        }
        checks.same("another what", -2, what -> x.shares(0, 0, 6, what), -1, 3, 4);
        checks.same("no such SEA", -2, sea -> x.shares(sea, 0, 6, 0), -1, 1);
        checks.same("no such DAY", -2, day -> x.shares(0, day, 6, 0), -1, 1);
    }

    private static void twiceIs(String sea, String day, int want) {
        checks.due("twice of [" + day + "] on [" + sea + "]", checks.told(sea, day).twice(0, 0), want);
    }

    private static void twice() {
        checks.sentence("Terms 3", "SHOALS (bits) that a claim of this DAY up to STOP would have been LAWFUL for, but for somebody else who HELD them.");
        twiceIs(TWO, "", 0);
        twiceIs(TWO, "claim 0 0 1;", 0);
        twiceIs(TWO, "claim 0 0 1;claim 0 0 1;", 0);
        twiceIs(TWO, "claim 0 0 1;claim 1 0 1;", 1);
        twiceIs(TWO, "claim 0 0 1;row 0 0;claim 1 0 1;", 0);
        twiceIs(TWO, "claim 0 0 1;net 0 0;all 1 1;", 0);
        twiceIs(TWO, "claim 0 0 1;claim 1 0 1;net 0 0;", 1);
        twiceIs(TWO.replace("coast 0 1", "coast 0 2"), "claim 0 0 2;claim 1 0 1;", 0);
        twiceIs(TWO.replace("coast 0 1", "coast 0 2"), "claim 0 0 1;claim 1 0 2;", 0);
        twiceIs("coast 0 1 0 1 3;shoal 1 9 4;boat 0 0 0;boat 3 0 0;", "claim 0 0 1;claim 1 0 1;", 0);
        twiceIs("coast 0 1 0 1 3;shoal 1 9 4;boat 0 0 0;boat 3 0 0;", "claim 0 0 1;row 1 3;claim 1 0 1;", 1);
        twiceIs("coast 1 1 1 20 3;coast 0 1 0 20 3;shoal 1 9 4;boat 0 0 0;boat 3 2 1;", "claim 0 0 1;claim 1 0 1;", 0);
        twiceIs("coast 1 1 1 20 3;coast 0 1 0 20 3;shoal 1 9 4;boat 0 0 0;boat 3 3 1;", "claim 0 0 1;claim 1 0 1;", 1);
        String six = "coast 0 1 0 20 30;" + "shoal 0 99 4;".repeat(4) + "boat 0 0 0;boat 0 0 0;";
        twiceIs(six, "all 0 1;split 0 0;split 0 0;all 0 1;all 1 1;", 63);
        twiceIs(six, "all 0 1;split 0 0;split 0 0;claim 0 5 1;all 1 1;", 47);
        checks.sentence("Promise 18", "NONE: there is none such (of either).");
        ShoalClaims x = checks.told(TWO, "");
        checks.same("no such SEA", NONE, sea -> x.twice(sea, 0), -1, 1);
        checks.same("no such DAY", NONE, day -> x.twice(0, day), -1, 1);
    }

    private static void gullsBounds() {
        checks.sentence("Promise 24", "NONE: there is none such (of any), another k, or for another what.");
        ShoalClaims x = checks.told("coast 0 1 1 20 9;shoal 0 9 4;boat 0 0 0;boat 0 0 0;", "claim 0 0 1;net 1 0;row 0 0;");
        checks.row("without gulls", what -> x.gulls(0, 0, 0, 0, what), 1, 2, NONE);
        checks.sentence("Promise 24", "GULLS, k 0 .. 10");
        checks.row("FISH without gulls", b -> x.gulls(0, 0, 0, 0, 10 + b), 1, 8, NONE);
        checks.row("with gulls that nobody outcries", what -> x.gulls(0, 0, 0, 10, what), 0, 2, NONE);
        checks.row("FISH with them", b -> x.gulls(0, 0, 0, 10, 10 + b), 0, 9, NONE);
        checks.same("another k", NONE, k -> x.gulls(0, 0, 0, k, 0), -1, 11, 12);
        checks.same("another k, STOP", NONE, k -> x.gulls(0, 0, 0, k, 1), -1, 11);
        checks.same("another k, FISH", NONE, k -> x.gulls(0, 0, 0, k, 10), -1, 11);
        checks.sentence("Promise 24", "NONE: there is none such (of any), another k, or for another what.");
        checks.same("another what", NONE, what -> x.gulls(0, 0, 0, 0, what), -1, 2, 3, 9, 12, 15, 16);
        checks.same("no such SEA", NONE, sea -> x.gulls(sea, 0, 0, 0, 0), -1, 1);
        checks.same("no such DAY", NONE, day -> x.gulls(0, day, 0, 0, 0), -1, 1);
        checks.same("any seed without gulls", 1, seed -> x.gulls(0, 0, seed, 0, 0), -1, 0, 1);
        checks.same("any seed with all of them", 0, seed -> x.gulls(0, 0, seed, 10, 0), -1, 0, 1);
        checks.due("what was told stays", x.claimed(0, 0, 0, false), 1);
        ShoalClaims six = checks.told("boat 0 0 0;".repeat(6), "");
        checks.row("an empty DAY", what -> six.gulls(0, 0, 7, 5, what), 0, 0, NONE);
        checks.row("FISH of six", b -> six.gulls(0, 0, 7, 5, 10 + b), 0, 0, 0, 0, 0, 0, NONE);
        checks.same("no such BOAT", NONE, what -> six.gulls(0, 0, 7, 5, what), 16);
    }

    /** The first numbers below 10 that a seed draws, worked out beside the program. */
    private static final int[][] DRAWS = {
        {0, 0, 6, 6, 5, 8}, {1, 8, 6, 3, 3, 9}, {2, 6, 7, 7, 2, 5}, {3, 5, 7, 5, 0, 0}, {7, 2, 6, 8, 4, 1}, {42, 9, 1, 7, 9, 4},
        {-1, 7, 9, 2, 6, 3}, {-2, 9, 8, 4, 8, 8}, {Integer.MAX_VALUE, 9, 7, 0, 8, 1}, {Integer.MIN_VALUE, 8, 8, 8, 7, 6}};

    private static void gullsDraws() {
        checks.sentence("Terms 4", "for each BOAT that HEARS it, by numbers, a number below 10: if it is below k, it does not HEAR it.");
        for (int[] d : DRAWS) {
            for (int k = 0; k <= 10; k++) {
                int still = 0;
                for (int i = 1; i <= 3; i++) {
                    still += d[i] < k ? 0 : 1;
                }
                // three hear BOAT 0; a law for each number of witnesses; a DEAF one draws nothing
                for (int asked = 1; asked <= 3; asked++) {
                    String law = "coast 0 1 " + asked + " 20 1;shoal 0 9 4;" + "boat 0 0 0;".repeat(5) + "deaf 1;";
                    int got = checks.told(law, "claim 0 0 1;").gulls(0, 0, d[0], k, 0);
                    checks.due("seed " + d[0] + ", k " + k + ", " + asked + " asked", got, still >= asked ? 1 : 0);
                }
            }
        }
    }

    private static void gullsWrapAround() {
        checks.sentence("Terms 4", "x becomes x * 1103515245 + 12345 (of 32 bits), it is x shifted right by 16 without sign, remainder by n");
        ShoalClaims x = checks.told("coast 0 1 1 20 1;shoal 0 9 4;boat 0 0 0;boat 0 0 0;", "claim 0 0 1;");
        // of -1, 2, 3 and the least int x has its highest bit: 3191464396, 2207042835, 3310558080, 2147495993
        int[][] firstDraws = {{-1, 7}, {-2, 9}, {Integer.MAX_VALUE, 9}, {Integer.MIN_VALUE, 8}, {0, 0}, {1, 8}, {2, 6}, {3, 5}};
        for (int[] d : firstDraws) {
            for (int k = 0; k <= 10; k++) {
                checks.due("seed " + d[0] + ", k " + k, x.gulls(0, 0, d[0], k, 0), d[1] < k ? 0 : 1);
            }
        }
    }

    private static void gullsWhoeverSpeaks() {
        checks.sentence("Terms 4", "for each BOAT that HEARS it, by numbers");
        // seed 42 draws 9, 1, 7 for the three others, whichever they are
        int[][] lawful = {{1, 1, 1, 1, 1, 1, 1, 1, 1, 1, 0}, {1, 1, 1, 1, 1, 1, 1, 1, 0, 0, 0}, {1, 1, 0, 0, 0, 0, 0, 0, 0, 0, 0}};
        for (int speaker = 0; speaker < 4; speaker++) {
            for (int asked = 1; asked <= 3; asked++) {
                String law = "coast 0 1 " + asked + " 20 9;shoal 0 9 4;" + "boat 0 0 0;".repeat(4);
                ShoalClaims x = checks.told(law, "claim " + speaker + " 0 1;");
                checks.row("seed 42, BOAT " + speaker + ", " + asked + " asked", k -> x.gulls(0, 0, 42, k, 0), lawful[asked - 1]);
            }
        }
    }

    private static void gullsInEachClaim() {
        checks.sentence("Terms 4", "in each claim (each SHOAL of an all, by itself)");
        String sea = "coast 0 1 1 20 9;" + "shoal 0 9 4;".repeat(3) + "boat 0 0 0;boat 0 0 0;";
        for (int[] d : DRAWS) {
            for (int k = 0; k <= 10; k++) {
                int lawful = 0;
                for (int i = 1; i <= 5; i++) {
                    lawful += d[i] < k ? 0 : 1;
                }
                ShoalClaims x = checks.told(sea, "all 0 1;claim 0 0 1;wait;claim 0 1 1;");
                checks.due("seed " + d[0] + ", k " + k + ", five claims", x.gulls(0, 0, d[0], k, 0), lawful);
            }
        }
        // claims that could not be LAWFUL are claims all the same, and draw
        ShoalClaims y = checks.told("coast 0 2 1 20 9;shoal 0 9 4;boat 0 0 0;boat 0 0 0;", "claim 0 0 1;claim 0 0 2;");
        checks.row("seed 0 draws 0, 6", k -> y.gulls(0, 0, 0, k, 0), 1, 1, 1, 1, 1, 1, 1, 0, 0, 0, 0, NONE);
        checks.row("seed 1 draws 8, 6", k -> y.gulls(0, 0, 1, k, 0), 1, 1, 1, 1, 1, 1, 1, 0, 0, 0, 0, NONE);
        ShoalClaims far = checks.told("coast 0 1 1 0 9;shoal 1 9 4;shoal 0 9 4;boat 0 0 0;boat 0 0 0;", "all 0 1;");
        checks.row("one too far: seed 0 draws 0, 6", k -> far.gulls(0, 0, 0, k, 0), 1, 1, 1, 1, 1, 1, 1, 0, 0, 0, 0, NONE);
        ShoalClaims held = checks.told("coast 0 1 0 20 9;coast 1 1 1 20 9;shoal 0 9 4;shoal 0 9 4;boat 0 0 0;boat 0 0 1;boat 0 0 0;deaf 0;deaf 1;",
            "claim 0 0 1;all 1 1;");
        // BOAT 2 hears all: the claim of BOAT 0 draws 2, those of BOAT 1 draw 6, 8; SHOAL 0 is HELD by BOAT 0
        checks.row("one HELD by another: seed 7 draws 2, 6, 8", k -> held.gulls(0, 0, 7, k, 0), 2, 2, 2, 2, 2, 2, 2, 2, 2, 1, 1, NONE);
    }

    private static void gullsOfAnAll() {
        checks.sentence("Terms 2", "all: it claims each SHOAL that is there, by numbers");
        String sea = "coast 0 1 1 20 9;shoal 0 10 4;shoal 0 20 4;shoal 0 30 4;boat 0 0 0;boat 0 0 0;";
        // seed 7 draws 2, 6, 8; the holder has a fifth of each that it HOLDS
        ShoalClaims x = checks.told(sea, "all 0 1;net 1 0;net 1 1;net 1 2;");
        checks.row("seed 7, FISH of the holder", k -> x.gulls(0, 0, 7, k, 10), 12, 12, 12, 10, 10, 10, 10, 6, 6, 0, 0, NONE);
        // without SHOAL 0 the first draw is for SHOAL 1
        ShoalClaims y = checks.told(sea, "net 1 0;all 0 1;net 1 1;net 1 2;");
        checks.row("seed 7, one netted ahead of it", k -> y.gulls(0, 0, 7, k, 10), 10, 10, 10, 6, 6, 6, 6, 0, 0, 0, 0, NONE);
    }

    private static void gullsStop() {
        checks.sentence("Promise 24", "1: STOP then, 10 + b: FISH of BOAT b at the end.");
        ShoalClaims x = checks.told("coast 0 1 1 20 9;shoal 0 9 4;boat 0 0 0;boat 0 0 0;", "claim 0 0 1;split 0 0;net 1 1;net 1 0;");
        // seed 7 draws 2: up to k 2 the claim is LAWFUL; the half of 4 is nobody's, of 5 the first has 5 * 1 / 5
        checks.row("STOP", k -> x.gulls(0, 0, 7, k, 1), 4, 4, 4, 1, 1, 1, 1, 1, 1, 1, 1, NONE);
        checks.row("FISH of the first", k -> x.gulls(0, 0, 7, k, 10), 1, 1, 1, 0, 0, 0, 0, 0, 0, 0, 0, NONE);
        checks.row("FISH of the second", k -> x.gulls(0, 0, 7, k, 11), 8, 8, 8, 0, 0, 0, 0, 0, 0, 0, 0, NONE);
        checks.sentence("Terms 4", "(The SHOALs' drifting, all else, goes as told.)");
        ShoalClaims y = checks.told("coast 0 1 1 20 9;shoal 0 9 1;boat 0 9 0;boat 3 0 0;", "claim 0 0 1;wait;wait;net 1 0;");
        checks.row("FISH of the netter", k -> y.gulls(0, 0, 7, k, 11), 8, 8, 8, 9, 9);
    }

    private static void lack() {
        checks.sentence("Terms 5", "what a claim with its COAST's SYLLABLES lacks to be LAWFUL (bits: 1 somebody else HOLDS it, 2 WITNESSES, 4 NEAR)");
        String sea = "size 8 2;coast 0 1 0 20 3;coast 1 20 # $ 1;shoal 2 9 4;boat 0 0 0;boat 0 1 1;boat 1 0 0;";
        for (int bits = 0; bits < 8; bits++) {
            // two others hear it, and it is 2 far from the shoal
            String told = sea.replace("#", (bits & 2) != 0 ? "3" : "2").replace("$", (bits & 4) != 0 ? "1" : "2");
            ShoalClaims x = checks.told(told, "claim 0 0 1;wait;wait;wait;wait;");
            int n = (bits & 1) != 0 ? 1 : 0;
            checks.due("lack", x.lack(0, 0, n, 1, 0), bits);
            int others = bits & 6;
            checks.row("while it is HELD, and then", hour -> x.lack(0, 0, hour, 1, 0), others, others | 1, others | 1, others | 1, others, others, NONE);
        }
        checks.sentence("Promise 25", "LACK (bits; 0: nothing). NONE: there is no such STATE, BOAT, or SHOAL (any more).");
        ShoalClaims x = checks.told(FREE, "claim 0 0 1;split 0 0;net 0 0;row 0 0;");
        checks.row("netted", n -> x.lack(0, 0, n, 0, 0), 0, 0, 0, NONE, NONE);
        checks.row("split", n -> x.lack(0, 0, n, 0, 1), NONE, NONE, 0, 0, NONE);
        checks.same("no such STATE", NONE, n -> x.lack(0, 0, n, 0, 1), -1, 4, 5);
        checks.same("no such BOAT", NONE, b -> x.lack(0, 0, 0, b, 0), -1, 1, 6);
        checks.same("no such SHOAL", NONE, s -> x.lack(0, 0, 0, 0, s), -1, 1, 5, 6, 32);
        checks.same("no such SEA", NONE, s -> x.lack(s, 0, 0, 0, 0), -1, 1);
        checks.same("no such DAY", NONE, day -> x.lack(0, day, 0, 0, 0), -1, 1);
    }

    private static void sum() {
        checks.sentence("Promise 29", "3: who has most (of several the least; NONE without BOATS). -2: there is none such (of either), or for another what.");
        ShoalClaims x = checks.told("shoal 0 9 4;shoal 0 8 4;", "");
        checks.row("without BOATS", what -> x.sum(0, 0, what), 0, 17, 0, NONE, -2);
        checks.same("another what", -2, what -> x.sum(0, 0, what), -1, 4, 5);
        checks.same("no such SEA", -2, sea -> x.sum(sea, 0, 0), -1, 1);
        checks.same("no such DAY", -2, day -> x.sum(0, day, 0), -1, 1);
        Checks.tell(x, Checks.SEA, 0, "shoal 0 9 4;shoal 0 8 4;boat 0 0 2;");
        checks.row("one BOAT, no net", what -> x.sum(0, 0, what), 0, 17, 0, 0, -2);
        Checks.tell(x, Checks.DAY, 0, "net 0 0;row 0 0;net 0 1;");
        checks.row("one BOAT, up to STOP", what -> x.sum(0, 0, what), 0, 8, 2, 0, -2);
        Checks.tell(x, Checks.DAY, 0, "net 0 0;net 0 1;");
        checks.row("all netted", what -> x.sum(0, 0, what), 0, 0, 2, 0, -2);
        Checks.tell(x, Checks.SEA, 0, "");
        checks.row("an empty SEA", what -> x.sum(0, 0, what), 0, 0, 0, NONE, -2);
        Checks.tell(x, Checks.SEA, 0, "shoal 0 9 4;shoal 0 8 4;" + "boat 0 0 1;".repeat(5) + "boat 0 0 2;");
        Checks.tell(x, Checks.DAY, 0, "net 5 0;net 4 1;");
        checks.row("six BOATS", what -> x.sum(0, 0, what), 9, 0, 2, 5, -2);
        checks.sentence("Terms 5", "SPARED: FISH that are not netted at the end.");
        checks.due("split ones, too", checks.told(FREE, "claim 0 0 1;split 0 0;").sum(0, 0, 1), 9);
        checks.due("a half netted", checks.told(FREE, "claim 0 0 1;split 0 0;net 0 1;").sum(0, 0, 1), 5);
        checks.due("all four", checks.told("shoal 0 99 4;".repeat(4), "").sum(0, 0, 1), 396);
    }

    private static void sumOfSeveral() {
        checks.sentence("Terms 5", "by how many FISH the BOAT that has most at the end has more than the one with least.");
        String sea = "shoal 0 9 4;shoal 0 9 4;shoal 0 8 4;shoal 0 5 4;boat 0 0 2;boat 0 0 1;boat 0 0 1;boat 0 0 0;";
        ShoalClaims x = checks.told(sea, "net 1 0;net 0 1;net 3 2;", "net 0 0;net 1 2;net 2 3;net 3 1;");
        checks.row("9, 9, 0, 8", what -> x.sum(0, 0, what), 9, 5, 1, 0, -2);
        checks.row("9, 8, 5, 9", what -> x.sum(0, 1, what), 4, 0, 1, 0, -2);
        checks.sentence("Terms 5", "the COAST whose BOATS have most FISH together at the end; of several the least.");
        ShoalClaims y = checks.told(sea, "net 0 0;net 3 1;", "net 0 3;net 3 2;net 2 0;");
        checks.row("9 of 2, 9 of 0", what -> y.sum(0, 0, what), 9, 13, 0, 0, -2);
        checks.row("5 of 2, 8 of 0, 9 of 1", what -> y.sum(0, 1, what), 9, 9, 1, 2, -2);
        ShoalClaims z = checks.told(sea, "net 2 2;net 0 0;", "net 3 3;net 0 2;");
        checks.row("8 of 1, 9 of 2", what -> z.sum(0, 0, what), 9, 14, 2, 0, -2);
        checks.row("5 of 0, 8 of 2", what -> z.sum(0, 1, what), 8, 18, 2, 0, -2);
        checks.due("9 of 1 and of 2", checks.told(sea, "net 0 0;net 1 1;").sum(0, 0, 2), 1);
        checks.due("the last of several BOATS", checks.told(sea, "net 3 0;").sum(0, 0, 3), 3);
        checks.sentence("Terms 5", "by how many FISH the BOAT that has most at the end has more than the one with least.");
        for (int least = 0; least < 4; least++) {
            StringBuilder day = new StringBuilder();
            for (int b = 0, shoal = 0; b < 4; b++) {
                if (b != least) {
                    day.append("net ").append(b).append(' ').append(shoal++).append(';');
                }
            }
            checks.due("BOAT " + least + " has none", checks.told(sea, day.toString()).sum(0, 0, 0), 9);
        }
    }
}
