/** "Terms" 4 and promises 32 to 44: what a PLAN leans, which PARTS can be told apart, what a rule and bets are worth. */
final class PlanBounds extends Bounds {
    private static final long WHOLE = 1000000000000L;
    /** HOPES of GAMES by p and q. */
    private static final long HOPE_30_30 = 1325710000000L;
    private static final long HOPE_31_30 = 1356792690000L;
    private static final long HOPE_40_30 = 1629480000000L;

    /** Side k is at home on ground k; MILES 0 to 1: 10, 0 to 2: 200, 1 to 2: 3000, 0 to 3: 7, to and fro. */
    private static final String FOUR = times(5, "ground 0 0 0;") + "side 0 10;side 1 25;side 2 50;side 3 0;"
        + "miles 0 1 10;miles 0 2 200;miles 1 2 3000;miles 0 3 7;miles 3 4 9999;";

    private PlanBounds() { }

    static void all() {
        travel();
        travelRefused();
        runs();
        early();
        uneven();
        turned();
        turnedRefused();
        awake();
        like();
        single();
        felt();
        feltNoted();
        feltRefused();
        rule();
        less();
        bet();
        best();
        fair();
        eachOfThree();
    }

    // ---- what a PLAN leans ----

    private static void travel(String plan, int... want) {
        HomeGround x = told(FOUR, null, plan);
        for (int side = 0; side < want.length; side++) {
            is("'" + plan + "' of " + side, x.travel(0, 0, side), want[side]);
        }
    }

    private static void travel() {
        says(TERMS, "from its own GROUND to that of its first GAME, from there to the next one, .., at last back to its own one, together");
        travel("", 0, 0, 0, 0);
        travel("game 0 1;", 0, 20, 0, 0);
        travel("game 1 0;", 20, 0, 0, 0);
        travel("game 1 0;game 2 0;", 10 + 3000 + 200, 0, 0, 0);
        travel("game 1 0;game 0 2;game 2 0;", 20 + 400, 0, 400, 0);
        travel("game 1 0;game 2 3;game 1 0;", 20, 0, 0, 0);
        travel("at 4;game 3 0;", 0, 0, 0, 2 * 9999);
        travel("at 3;game 0 1;", 14, 0, 0, 0);
        travel("at 1;game 0 1;game 0 1;", 20, 20, 0, 0);

        // of a side whose own ground is not the first one, and 0's neither
        HomeGround y = told("ground 0 0 0;ground 0 0 0;ground 0 0 0;side 1 0;side 2 0;miles 0 1 5;miles 0 2 70;miles 1 2 900;",
            null, "game 1 0;");
        is("from ground 1 and back", y.travel(0, 0, 0), 1800);
        is("at home on ground 2", y.travel(0, 0, 1), 0);

        says(32, "TRAVEL");
        HomeGround x = told("ground 0 0 0;ground 0 0 0;side 0 0;side 1 0;side 0 0;miles 0 1 9999;", null,
            times(20, "game 0 1;game 1 0;"));
        is("as far as can be", x.travel(0, 0, 0), 40 * 9999);
        is("as far as can be, as guest first", x.travel(0, 0, 1), 40 * 9999);
        is("one that plays none", x.travel(0, 0, 2), 0);
    }

    private static void travelRefused() {
        says(32, "NONE: the PLAN does not GO, or there is none such (of any)");
        HomeGround x = told(FOUR, null, "game 1 0;");
        is("side 3", x.travel(0, 0, 3), 0);
        for (int side : new int[] {-1, 4, 7, 8, MIN, MAX}) {
            is("side " + side, x.travel(0, 0, side), NONE);
        }
        for (int k : new int[] {-1, 1, 2, 3, MIN, MAX}) {
            is("league " + k, x.travel(k, 0, 0), NONE);
            is("plan " + k, x.travel(0, k, 0), NONE);
        }
        Due.text(x, PLAN, NONE, "game 1 0;game 4 0;");
        Due.text(x, PLAN, NONE, "at 5;game 1 0;");
        is("a side too many", x.travel(0, 1, 0), NONE);
        is("a ground too many", x.travel(0, 2, 0), NONE);
        is("the plan that goes", x.travel(0, 0, 0), 20);
    }

    private static void runs(String plan, int side, int home, int guest) {
        HomeGround x = told(null, null, plan);
        is("'" + plan + "' " + side + " at home", x.runs(0, side, true), home);
        is("'" + plan + "' " + side + " as guest", x.runs(0, side, false), guest);
    }

    private static void runs() {
        says(TERMS, "RUNS: the longest row of GAMES of a SIDE (its own ones alone) all at home, or all as guest");
        runs("", 0, 0, 0);
        runs("game 0 1;", 0, 1, 0);
        runs("game 0 1;", 1, 0, 1);
        runs("game 0 1;game 0 1;game 1 0;", 0, 2, 1);
        runs("game 1 0;game 0 1;game 0 1;", 0, 2, 1);
        runs("game 0 1;game 1 0;game 0 1;game 1 0;game 1 0;", 0, 1, 2);
        // games of others are no end of a row
        runs("game 0 1;game 2 3;game 0 1;game 2 1;game 0 4;", 0, 3, 0);
        runs("game 0 1;game 2 3;game 1 0;game 2 1;game 0 4;", 0, 1, 1);
        // the longest is the first one, or the last one
        runs("game 0 1;game 0 1;game 0 1;game 1 0;game 0 1;game 0 1;", 0, 3, 1);
        runs("game 0 1;game 0 1;game 1 0;game 0 1;game 0 1;game 0 1;", 0, 3, 1);

        says(33, "RUNS at home, or as guest");
        runs(times(40, "game 7 6;"), 7, 40, 0);
        runs(times(40, "game 7 6;"), 6, 0, 40);
        runs("game 7 6;", 5, 0, 0);

        says(33, "NONE: there is none such (of either)");
        HomeGround x = told(null, null, "game 7 0;");
        for (int side : new int[] {-1, 8, 9, MIN, MAX}) {
            is("side " + side, x.runs(0, side, true), NONE);
            is("side " + side + " as guest", x.runs(0, side, false), NONE);
        }
        for (int k : new int[] {-1, 1, 2, 3, MIN, MAX}) {
            is("plan " + k, x.runs(k, 0, true), NONE);
            is("plan " + k + " as guest", x.runs(k, 7, false), NONE);
        }
    }

    private static void early() {
        says(TERMS, "EARLY: of the first n GAMES STRENGTHS of homes less those of guests, together");
        HomeGround x = told(FOUR, null, "game 0 1;game 2 3;at 1;game 1 2;");
        int[] want = {0, -15, 35, 10};
        for (int n = 0; n <= 3; n++) {
            is("of " + n, x.early(0, 0, n), want[n]);
        }

        says(34, "EARLY, n 0 to as many as there are");
        HomeGround y = told(FOUR, null, times(40, "game 2 3;"));
        is("of none", y.early(0, 0, 0), 0);
        is("of 39", y.early(0, 0, 39), 39 * 50);
        is("of all", y.early(0, 0, 40), 2000);
        is("of 41", y.early(0, 0, 41), NO_SHARE);
        is("of no games", told(FOUR, null, "").early(0, 0, 0), 0);
        is("of more than none", told(FOUR, null, "").early(0, 0, 1), NO_SHARE);

        says(34, "-1000000: the PLAN does not GO, or there is none such (of any)");
        for (int n : new int[] {-1, 4, 5, 40, MIN, MAX}) {
            is("of " + n, x.early(0, 0, n), NO_SHARE);
        }
        for (int k : new int[] {-1, 1, 2, 3, MIN, MAX}) {
            is("league " + k, x.early(k, 0, 0), NO_SHARE);
            is("plan " + k, x.early(0, k, 0), NO_SHARE);
        }
        Due.text(x, PLAN, NONE, "game 1 0;game 4 0;");
        Due.text(x, PLAN, NONE, "at 5;game 1 0;");
        is("a side too many", x.early(0, 1, 0), NO_SHARE);
        is("a ground too many", x.early(0, 2, 1), NO_SHARE);
    }

    private static void uneven() {
        says(TERMS, "UNEVEN: couples of SIDES of which one was more often at home to the other than that at home to it");
        String[] plans = {"", "game 0 1;", "game 0 1;game 1 0;", "game 0 1;game 0 1;game 1 0;", "game 1 0;game 1 0;game 0 1;",
            "game 0 1;game 1 2;", "game 0 1;game 1 0;game 6 7;", "game 0 1;game 0 2;game 1 0;game 7 0;"};
        int[] want = {0, 1, 0, 1, 1, 2, 1, 2};
        for (int k = 0; k < plans.length; k++) {
            is("'" + plans[k] + "'", told(null, null, plans[k]).uneven(0), want[k]);
        }
        StringBuilder all = new StringBuilder();
        for (int a = 0; a < 8; a++) {
            for (int b = 0; b < a; b++) {
                all.append("game ").append(a).append(' ').append(b).append(';');
            }
        }
        says(35, "UNEVEN");
        is("all 28 couples", told(null, null, all.toString()).uneven(0), 28);
        is("forty times one", told(null, null, times(40, "game 7 6;")).uneven(0), 1);

        says(35, "NONE: there is no such PLAN");
        HomeGround x = told(null, null, "game 0 1;");
        for (int k : new int[] {-1, 1, 2, 3, MIN, MAX}) {
            is("plan " + k, x.uneven(k), NONE);
        }
    }

    private static void turned(String miles, String plan, int want) {
        String league = times(4, "ground 0 0 0;") + "side 0 0;side 1 0;side 2 0;side 3 0;" + miles;
        is("'" + plan + "' by '" + miles + "'", told(league, null, plan).turned(0, 0), want);
    }

    private static void turned() {
        says(TERMS, "makes TRAVEL of all SIDES together least, less than it is; of several the least");
        // 0 goes to 1, on to 2 and back: as exchanged if 1 to 2 is as far as by 0; one mile more, and each one is better
        turned("miles 0 1 5;miles 0 2 7;miles 1 2 11;", "game 1 0;game 2 0;", NONE);
        turned("miles 0 1 5;miles 0 2 7;miles 1 2 12;", "game 1 0;game 2 0;", NONE);
        turned("miles 0 1 5;miles 0 2 7;miles 1 2 13;", "game 1 0;game 2 0;", 0);
        // there and back at once: either exchanged saves twice the way
        turned("miles 0 1 5;miles 2 3 6;", "game 0 1;game 1 0;game 2 3;game 3 2;", 2);
        turned("miles 0 1 6;miles 2 3 5;", "game 0 1;game 1 0;game 2 3;game 3 2;", 0);
        turned("miles 0 1 6;miles 2 3 6;", "game 0 1;game 1 0;game 2 3;game 3 2;", 0);
        turned("miles 2 3 1;", "game 0 1;game 1 0;game 2 3;game 3 2;", 2);
        // the last one alone
        turned("miles 0 1 5;", "game 0 2;game 0 1;game 0 1;game 1 0;", 3);

        says(TERMS, "(on the GROUND that this gives, unless another one was told)");
        turned("miles 0 1 5;", "game 0 1;game 1 0;", 0);
        turned("miles 0 1 5;", "at 0;game 0 1;game 1 0;", 1);
        turned("miles 0 1 5;", "game 0 1;at 1;game 1 0;", 0);
        turned("miles 0 1 5;", "at 0;game 0 1;at 1;game 1 0;", NONE);

        says(36, "TURNED");
        turned("miles 0 1 9999;", times(39, "game 0 1;") + "game 1 0;", 39);
    }

    private static void turnedRefused() {
        says(36, "NONE: none, the PLAN does not GO, or there is none such (of either)");
        turned("miles 0 1 5;", "", NONE);
        turned("miles 0 1 5;", "game 0 1;", NONE);
        turned("", "game 0 1;game 1 0;", NONE);
        HomeGround x = told(FOUR, null, "game 0 1;game 1 0;");
        is("it goes", x.turned(0, 0), 0);
        for (int k : new int[] {-1, 1, 2, 3, MIN, MAX}) {
            is("league " + k, x.turned(k, 0), NONE);
            is("plan " + k, x.turned(0, k), NONE);
        }
        Due.text(x, PLAN, NONE, "game 0 1;game 1 0;game 4 0;");
        Due.text(x, PLAN, NONE, "game 0 1;game 1 0;at 5;game 1 0;");
        is("a side too many", x.turned(0, 1), NONE);
        is("a ground too many", x.turned(0, 2), NONE);
    }

    // ---- which PARTS are AWAKE ----

    /** No PARTS; those at which a shift of bits comes to 0 .. 5 again are among them. */
    private static final int[] OTHER_PARTS = {-1, 6, 7, 31, 32, 33, 34, 35, 36, 37, 64, 67, -29, -32, -64, MIN, MIN + 3, MAX};

    /** Ground 0 is 100 LOUD, and 9 high; side 2 is on side 0's ground. */
    private static final String HEARD = "ground 9 0 100;ground 0 0 100;side 0 0;side 1 0;side 0 0;miles 0 1 500;";

    private static void awake() {
        says(TERMS, "A PART is AWAKE in a GAME, if it is above 0");
        // SUNG of 1 is AWAKE, SUNG of 0 sleeps as all others do
        is("just 1", told(HEARD, "sung 1 100;", "game 0 1;").like(0, 0, 0, 3), 8);
        is("just 0", told(HEARD, "sung 1 101;", "game 0 1;").like(0, 0, 0, 3), 63);
        is("0 much", told(HEARD, "sung 0 1;", "game 0 1;").like(0, 0, 0, 3), 63);
        is("at most", told(HEARD, "sung 50 1;", "game 0 1;").like(0, 0, 0, 3), 8);
        is("a couple by 1", told(HEARD, "sung 1 100;", "game 0 1;empty;game 0 1;").single(0, 0, 0, 3), 1);
        is("no couple by 0", told(HEARD, "sung 1 101;", "game 0 1;empty;game 0 1;").single(0, 0, 0, 3), 0);
    }

    /** With PEOPLE in 0 and 2, SOFT in 2; of 3 both SIDES are of one GROUND. */
    private static final String FOUR_GAMES = "game 0 1;empty;at 0;game 2 1;people;soft;game 0 1;strict;empty;game 0 2;";

    private static void like() {
        says(TERMS, "LIKE of a PART: PARTS (bits) that are AWAKE in just the same GAMES, itself too");
        HomeGround x = told(HEARD, "known 1;miles 1 500;sung 1 100;judged 1 100;", FOUR_GAMES);
        // KNOWN in 0, 1, 2 as MILES is; SUNG in 0 and 2; JUDGED in 2; REST and HEIGHT never
        int[] want = {1 + 2, 1 + 2, 4 + 32, 8, 16, 4 + 32};
        for (int part = 0; part < 6; part++) {
            is("of " + part, x.like(0, 0, 0, part), want[part]);
        }

        says(37, "LIKE (bits)");
        HomeGround y = told(HEARD, "", FOUR_GAMES);
        Due.text(y, PLAN, NONE, "");
        Due.text(y, LAW, NONE, "known 1;miles 1 1;sung 1 1;height 1 1;");
        for (int part = 0; part < 6; part++) {
            is("of none awake, " + part, y.like(0, 0, 0, part), 63);
            is("of no games, " + part, y.like(0, 1, 1, part), 63);
        }
        // each call looks anew: all but REST and JUDGED are AWAKE in the first game
        Due.text(y, PLAN, NONE, "game 0 1;");
        is("of no games", y.like(0, 1, 1, 0), 63);
        is("of one game", y.like(0, 1, 2, 0), 1 + 2 + 8 + 32);
        is("of one game, asleep", y.like(0, 1, 2, 4), 4 + 16);
        is("by another law", y.like(0, 0, 2, 0), 63);

        says(37, "NONE: the PLAN does not GO, or there is none such (of any)");
        for (int part : OTHER_PARTS) {
            is("part " + part, x.like(0, 0, 0, part), NONE);
        }
        for (int k : new int[] {-1, 1, 2, 3, MIN, MAX}) {
            is("league " + k, x.like(k, 0, 0, 0), NONE);
            is("law " + k, x.like(0, k, 0, 0), NONE);
            is("plan " + k, x.like(0, 0, k, 0), NONE);
        }
        Due.text(x, PLAN, NONE, "game 0 3;");
        Due.text(x, PLAN, NONE, "at 2;game 0 1;");
        is("a side too many", x.like(0, 0, 1, 0), NONE);
        is("a ground too many", x.like(0, 0, 2, 0), NONE);
    }

    private static void single() {
        says(TERMS, "SINGLE of a PART: couples of GAMES in which just this one is AWAKE in one and not in the other, all others alike");
        // KNOWN, MILES, SUNG in 0; KNOWN, MILES in 1; KNOWN, MILES, SUNG, JUDGED in 2; none in 3
        HomeGround x = told(HEARD, "known 1;miles 1 500;sung 1 100;judged 1 100;", FOUR_GAMES);
        int[] want = {0, 0, 0, 1, 1, 0};
        for (int part = 0; part < 6; part++) {
            is("of " + part, x.single(0, 0, 0, part), want[part]);
        }

        says(38, "SINGLE");
        // 20 with people, 20 without: each one of these with each one of those
        HomeGround y = told(HEARD, "sung 1 1;", times(20, "game 0 1;") + "empty;" + times(20, "game 0 1;"));
        is("of forty games", y.single(0, 0, 0, 3), 400);
        is("of forty games, asleep", y.single(0, 0, 0, 0), 0);
        Due.text(y, PLAN, NONE, "");
        Due.text(y, PLAN, NONE, "game 0 1;");
        is("of no games", y.single(0, 0, 1, 3), 0);
        is("of one game", y.single(0, 0, 2, 3), 0);
        is("of forty games again", y.single(0, 0, 0, 3), 400);

        says(38, "NONE: as like()");
        for (int part : OTHER_PARTS) {
            is("part " + part, x.single(0, 0, 0, part), NONE);
        }
        for (int k : new int[] {-1, 1, 2, 3, MIN, MAX}) {
            is("league " + k, x.single(k, 0, 0, 0), NONE);
            is("law " + k, x.single(0, k, 0, 0), NONE);
            is("plan " + k, x.single(0, 0, k, 0), NONE);
        }
        Due.text(x, PLAN, NONE, "game 0 3;");
        Due.text(x, PLAN, NONE, "at 2;game 0 1;");
        is("a side too many", x.single(0, 0, 1, 0), NONE);
        is("a ground too many", x.single(0, 0, 2, 0), NONE);
    }

    private static void felt(HomeGround x, int plan, int part, int year, int over, int under) {
        share("plan " + plan + " part " + part + " year " + year, x.felt(0, 0, plan, part, year, false),
            x.felt(0, 0, plan, part, year, true), over, under);
    }

    /** GAMES of a YEAR by their goals. */
    private static void notes(HomeGround x, int year, int... goals) {
        for (int pair : goals) {
            DUE.is("note", x.note(5, 6, year, pair, 0, 0, 0, 0) >= 0, true);
        }
    }

    private static void felt() {
        says(TERMS, "MARGINS where it is AWAKE less those where not, together, by how many couples");
        // SUNG in 0 and 2, not in 1
        HomeGround x = told(HEARD, "sung 1 1;", "game 0 1;empty;game 0 1;people;game 0 1;");
        notes(x, 5, 30, 10, 1);
        notes(x, 6, 1, 10, 20);
        notes(x, 0, 90, 9, 90);
        notes(x, 59, 9, 90, 9);
        // 3 less 1, -1 less 1; then -1 less 1, 2 less 1
        felt(x, 0, 3, 5, 0, 1);
        felt(x, 0, 3, 6, -1, 2);

        says(39, "FELT by what is NOTED of a YEAR, as alone()");
        felt(x, 0, 3, 0, 18, 1);
        felt(x, 0, 3, 59, -18, 1);
    }

    private static void feltNoted() {
        says(TERMS, "GAME i of the PLAN being the i-th of NOTED of a YEAR");
        HomeGround x = told(HEARD, "sung 1 1;", "game 0 1;empty;game 0 1;");
        notes(x, 7, 10);
        notes(x, 9, 90);
        notes(x, 7, 3);
        notes(x, 6, 90);
        notes(x, 9, 9);
        notes(x, 7, 90);
        // the third one of year 7 does not count
        felt(x, 0, 3, 7, 4, 1);
        felt(x, 0, 3, 9, 18, 1);
    }

    private static void feltRefused() {
        says(39, "-1000000: as like(), there are no such couples, or fewer NOTED of that YEAR than GAMES");
        HomeGround x = told(HEARD, "sung 1 1;", "game 0 1;empty;game 0 1;game 0 1;");
        Due.text(x, PLAN, NONE, "game 0 3;");
        notes(x, 5, 10, 0);
        notes(x, 6, 10, 0, 0);
        notes(x, 7, 10, 0, 0, 90);
        felt(x, 0, 3, 5, NO_SHARE, NO_SHARE);
        felt(x, 0, 3, 6, 1, 1);
        felt(x, 0, 3, 7, 1, 1);
        for (int year : new int[] {-1, 0, 8, 59, 60, MIN, MAX}) {
            felt(x, 0, 3, year, NO_SHARE, NO_SHARE);
        }
        for (int part : new int[] {0, 1, 2, 4, 5}) {
            felt(x, 0, part, 6, NO_SHARE, NO_SHARE);
        }
        for (int part : OTHER_PARTS) {
            felt(x, 0, part, 6, NO_SHARE, NO_SHARE);
        }
        felt(x, 1, 3, 6, NO_SHARE, NO_SHARE);
        for (int k : new int[] {-1, 2, 3, MIN, MAX}) {
            felt(x, k, 3, 6, NO_SHARE, NO_SHARE);
            is("league " + k, x.felt(k, 0, 0, 3, 6, true), NO_SHARE);
            is("law " + k, x.felt(0, k, 0, 3, 6, true), NO_SHARE);
        }
        Due.text(x, PLAN, NONE, "");
        felt(x, 2, 3, 6, NO_SHARE, NO_SHARE);
        felt(x, 2, 3, 59, NO_SHARE, NO_SHARE);
        Due.text(x, PLAN, 2, "game 0 1;empty;at 2;game 0 1;");
        felt(x, 2, 3, 6, NO_SHARE, NO_SHARE);
    }

    // ---- what a rule and bets are worth ----

    private static final String EVEN = "ground 0 0 0;ground 0 0 0;side 0 0;side 1 0;";

    private static void rule() {
        says(TERMS, "RULE: HOPES of all GAMES by a LAW less those by another one, together");
        HomeGround x = told(EVEN, "", "game 0 1;game 1 0;");
        Due.text(x, LAW, NONE, "known 1;");
        Due.text(x, LAW, NONE, "known 10;");
        is("known 1", x.rule(0, 1, 0, 0), 2 * (HOPE_31_30 - HOPE_30_30));
        is("known 10", x.rule(0, 2, 0, 0), 2 * (HOPE_40_30 - HOPE_30_30));
        is("known 10 by known 1", x.rule(0, 2, 1, 0), 2 * (HOPE_40_30 - HOPE_31_30));

        says(40, "RULE");
        is("the other way", x.rule(0, 1, 2, 0), 2 * (HOPE_31_30 - HOPE_40_30));
        is("by itself", x.rule(0, 1, 1, 0), 0);
        Due.text(x, PLAN, NONE, "");
        is("of no games", x.rule(0, 2, 0, 1), 0);
        HomeGround y = told("ground 0 0 0;side 0 50;side 0 0;", "base 50;", times(40, "game 0 1;"));
        Due.text(y, LAW, NONE, "base 0;");
        // p 100 and q 0 by both: p 50 and q 0 by the other one
        is("forty sure ones", y.rule(0, 0, 1, 0), 40 * (3 * WHOLE - 2750000000000L));

        says(40, "The least long: the PLAN does not GO, or there is none such (of any)");
        for (int k : new int[] {-1, 3, 4, MIN, MAX}) {
            is("league " + k, x.rule(k, 0, 1, 0), LEAST_LONG);
            is("law " + k, x.rule(0, k, 1, 0), LEAST_LONG);
            is("other law " + k, x.rule(0, 1, k, 0), LEAST_LONG);
            is("both laws " + k, x.rule(0, k, k, 0), LEAST_LONG);
            is("plan " + k, x.rule(0, 1, 0, k), LEAST_LONG);
        }
        is("league 1", x.rule(1, 0, 1, 0), LEAST_LONG);
        is("plan 2", x.rule(0, 1, 0, 2), LEAST_LONG);
        is("law 2 of two", y.rule(0, 2, 0, 0), LEAST_LONG);
        is("other law 2 of two", y.rule(0, 0, 2, 0), LEAST_LONG);
        Due.text(x, PLAN, NONE, "game 0 2;");
        is("a side too many", x.rule(0, 1, 0, 2), LEAST_LONG);
        Due.text(x, PLAN, 2, "at 2;game 0 1;");
        is("a ground too many", x.rule(0, 1, 0, 2), LEAST_LONG);
    }

    private static void less() {
        says(TERMS, "LESS by a PART: HOPES together, if that PART were 0, less what they are");
        HomeGround x = told(EVEN + "miles 0 1 9;", "known 1;miles 1 1;", "game 0 1;game 1 0;");
        // p is 40 with both, 31 and 39 without one
        is("miles", x.less(0, 0, 0, 1), 2 * (HOPE_31_30 - HOPE_40_30));
        for (int part = 2; part < 6; part++) {
            is("one asleep, " + part, x.less(0, 0, 0, part), 0);
        }
        Due.text(x, LAW, 0, "known 10;");
        is("known", x.less(0, 0, 0, 0), 2 * (HOPE_30_30 - HOPE_40_30));
        is("miles, asleep", x.less(0, 0, 0, 1), 0);

        says(41, "LESS by a PART");
        // EDGE of 150 by three parts of 50: without one of them p is 100 all the same
        HomeGround y = told("ground 99 0 999;ground 0 0 0;side 0 0;side 1 0;miles 0 1 99;",
            "base 0;miles 50 1;sung 50 1;height 50 1;", "game 0 1;");
        is("p is 100 without it", y.less(0, 0, 0, 1), 0);
        Due.text(y, LAW, 0, "base 0;miles 50 1;sung 50 1;");
        is("p is 50 without it", y.less(0, 0, 0, 3), 2750000000000L - 3 * WHOLE);
        Due.text(y, PLAN, NONE, "");
        is("of no games", y.less(0, 0, 1, 1), 0);

        says(41, "The least long: as rule()");
        for (int part : OTHER_PARTS) {
            is("part " + part, x.less(0, 0, 0, part), LEAST_LONG);
        }
        for (int k : new int[] {-1, 1, 2, 3, MIN, MAX}) {
            is("league " + k, x.less(k, 0, 0, 0), LEAST_LONG);
            is("law " + k, x.less(0, k, 0, 0), LEAST_LONG);
            is("plan " + k, x.less(0, 0, k, 0), LEAST_LONG);
        }
        Due.text(x, PLAN, NONE, "game 0 2;");
        Due.text(x, PLAN, NONE, "at 2;game 0 1;");
        is("a side too many", x.less(0, 0, 1, 0), LEAST_LONG);
        is("a ground too many", x.less(0, 0, 2, 0), LEAST_LONG);
    }

    private static void bet() {
        says(TERMS, "BET on home at a price: the first CHANCE * price - 100 * 10 to the 12");
        // p 50, q 0 by LAW 0; p 30, q 30 by LAW 1
        HomeGround x = told(EVEN, "base 0;known 50;", "game 0 1;game 1 0;");
        Due.text(x, LAW, NONE, "");
        is("at 200", x.bet(0, 0, 0, 0, 200), 875000000000L * 200 - 100 * WHOLE);
        is("even, at 300", x.bet(0, 1, 0, 1, 300), 325710000000L * 300 - 100 * WHOLE);

        says(42, "BET, price 101 .. 999");
        is("at 101", x.bet(0, 0, 0, 1, 101), 875000000000L * 101 - 100 * WHOLE);
        is("at 999", x.bet(0, 0, 0, 1, 999), 875000000000L * 999 - 100 * WHOLE);
        Due.text(x, LAW, NONE, "base 0;");
        is("never won", x.bet(0, 2, 0, 0, 999), -100 * WHOLE);
        HomeGround y = told("ground 0 0 0;side 0 50;side 0 0;", "base 50;", "game 0 1;");
        is("always won", y.bet(0, 0, 0, 0, 999), 899 * WHOLE);
        is("always won at 101", y.bet(0, 0, 0, 0, 101), WHOLE);

        says(42, "The least long: as rule(), or another price");
        for (int price : new int[] {100, 1000, 0, -1, MIN, MAX}) {
            is("at " + price, x.bet(0, 0, 0, 0, price), LEAST_LONG);
        }
        for (int game : new int[] {-1, 2, 3, 40, 715827883, -715827882, MIN, MAX}) {
            is("game " + game, x.bet(0, 0, 0, game, 200), LEAST_LONG);
        }
        for (int k : new int[] {-1, 3, 4, MIN, MAX}) {
            is("league " + k, x.bet(k, 0, 0, 0, 200), LEAST_LONG);
            is("law " + k, x.bet(0, k, 0, 0, 200), LEAST_LONG);
            is("plan " + k, x.bet(0, 0, k, 0, 200), LEAST_LONG);
        }
        is("law 1 of one", y.bet(0, 1, 0, 0, 200), LEAST_LONG);
        Due.text(x, PLAN, NONE, "game 0 1;game 0 2;");
        Due.text(x, PLAN, NONE, "game 0 1;at 2;game 0 1;");
        is("a side too many", x.bet(0, 0, 1, 0, 200), LEAST_LONG);
        is("a ground too many", x.bet(0, 0, 2, 0, 200), LEAST_LONG);
    }

    private static void best() {
        says(TERMS, "BEST: the GAME at which that is greatest, above 0; of several the least");
        // side 0 wins at home by 7 of 8, side 1 never, away from home none does
        HomeGround x = told("ground 0 0 0;ground 0 0 0;ground 0 0 0;side 0 50;side 1 0;side 2 0;", "base 0;known 10;",
            "game 1 0;game 1 2;game 0 1;game 0 2;game 2 1;");
        // of game 0 p is 0; of 1 and 4 10; of 2 and 3 60, q 0: 0.936 and 0.271 are won
        is("at 200", x.best(0, 0, 0, 200), 2);
        is("just above 0", x.best(0, 0, 0, 107), 2);
        is("just below 0", x.best(0, 0, 0, 106), NONE);
        Due.text(x, LAW, NONE, "base 50;");
        // p 100, 50, 0 by strengths: the first GAME is the best one
        Due.text(x, PLAN, NONE, "game 0 1;game 1 2;game 1 0;");
        is("the first", x.best(0, 1, 1, 200), 0);
        Due.text(x, PLAN, 1, "game 0 1;game 0 2;game 0 1;");
        is("the first of three alike", x.best(0, 1, 1, 101), 0);
        Due.text(x, PLAN, 1, "game 1 0;game 1 2;game 2 1;");
        is("at 370, above 0", x.best(0, 0, 1, 370), 1);
        is("at 369, below 0", x.best(0, 0, 1, 369), NONE);

        says(43, "BEST");
        is("at 101", x.best(0, 0, 0, 101), NONE);
        is("at 999", x.best(0, 0, 1, 999), 1);
        HomeGround y = told("ground 0 0 0;side 0 50;side 0 0;", "base 50;", times(39, "game 1 0;") + "game 0 1;");
        is("the last, always won, at 101", y.best(0, 0, 0, 101), 39);

        says(43, "NONE: none, another price, the PLAN does not GO, or there is none such (of any)");
        Due.text(y, PLAN, NONE, "game 1 0;");
        Due.text(y, PLAN, NONE, "");
        is("never won", y.best(0, 0, 1, 999), NONE);
        is("of no games", y.best(0, 0, 2, 999), NONE);
        for (int price : new int[] {100, 1000, 0, MIN, MAX}) {
            is("at " + price, y.best(0, 0, 0, price), NONE);
        }
        for (int k : new int[] {-1, 1, 2, 3, MIN, MAX}) {
            is("league " + k, x.best(k, 0, 0, 200), NONE);
        }
        for (int k : new int[] {-1, 2, 3, MIN, MAX}) {
            is("law " + k, x.best(0, k, 0, 200), NONE);
            is("plan " + k, x.best(0, 0, k, 200), NONE);
        }
        Due.text(y, PLAN, 1, "game 0 1;game 0 2;");
        Due.text(y, PLAN, 2, "game 0 1;at 1;game 0 1;");
        is("a side too many", y.best(0, 0, 1, 200), NONE);
        is("a ground too many", y.best(0, 0, 2, 200), NONE);
    }

    private static void fair() {
        says(TERMS, "FAIR: the least price, 101 .. 999, at which it is not below 0");
        // p by strength alone, q 0: of 79, 78, 74 and 73 are won 0.990739, 0.989352, 0.982424 and 0.980317
        int[][] want = {{39, 101}, {38, 102}, {34, 102}, {33, 103}};
        for (int[] w : want) {
            HomeGround x = told("ground 0 0 0;side 0 40;side 0 0;", "base " + w[0] + ";", "game 0 1;");
            is("base " + w[0], x.fair(0, 0, 0, 0), w[1]);
            is("there it is not below 0", x.bet(0, 0, 0, 0, w[1]) >= 0, true);
            is("one less is", x.bet(0, 0, 0, 0, w[1] - 1) < 0, true);
        }
        HomeGround sure = told("ground 0 0 0;side 0 50;side 0 0;", "base 50;", "game 0 1;game 1 0;");
        is("always won", sure.fair(0, 0, 0, 0), 101);
        // p 29, q 62: fair at 995; p 28, q 61: at 1001 first
        HomeGround x = told("ground 0 0 0;ground 0 0 0;side 0 0;side 1 17;", "base 45;known 1;", "game 0 1;");
        Due.text(x, LAW, NONE, "base 44;known 1;");
        is("p of 29", x.worth(0, 0, 0, 0, 8), 29);
        is("the dearest", x.fair(0, 0, 0, 0), 995);
        is("p of 28", x.worth(0, 1, 0, 0, 8), 28);
        is("too dear", x.fair(0, 1, 0, 0), NONE);

        // p 11, q 34: it would be fair at 1000
        HomeGround y = told("ground 0 0 0;ground 0 0 0;side 0 0;side 1 12;", "base 22;known 1;", "game 0 1;");
        is("p of 11", y.worth(0, 0, 0, 0, 8), 11);
        is("q of 34", y.worth(0, 0, 0, 0, 9), 34);
        is("a little too dear", y.fair(0, 0, 0, 0), NONE);

        says(44, "FAIR");
        is("even", told(EVEN, "base 50;", "game 0 1;").fair(0, 0, 0, 0), 291);

        says(44, "NONE: none, the PLAN does not GO, or there is none such (of any)");
        is("never won", sure.fair(0, 0, 0, 1), NONE);
        for (int game : new int[] {-1, 2, 3, 40, 715827883, -715827882, MIN, MAX}) {
            is("game " + game, sure.fair(0, 0, 0, game), NONE);
        }
        for (int k : new int[] {-1, 1, 2, 3, MIN, MAX}) {
            is("league " + k, sure.fair(k, 0, 0, 0), NONE);
            is("law " + k, sure.fair(0, k, 0, 0), NONE);
            is("plan " + k, sure.fair(0, 0, k, 0), NONE);
        }
        Due.text(sure, PLAN, NONE, "game 0 1;game 0 2;");
        Due.text(sure, PLAN, NONE, "game 0 1;at 1;game 0 1;");
        is("a side too many", sure.fair(0, 0, 1, 0), NONE);
        is("a ground too many", sure.fair(0, 0, 2, 0), NONE);
    }

    // ---- each of three LEAGUES, LAWS and PLANS ----

    private static final String[][] TEXTS = {
        {FOUR, "ground 9 1 700;ground 50 0 90;ground 0 9 999;side 0 40;side 1 3;side 2 22;miles 0 1 700;miles 1 2 55;miles 0 2 6;",
            "ground 1 0 50;ground 2 2 300;side 1 30;side 0 31;side 1 33;side 0 30;side 1 2;miles 1 0 450;"},
        {"base 44;known 9;miles 3 70;rest 6 6;sung 2 45;judged 7 99;height 1 5;", "known 3;sung 1 9;height 8 2;base 20;",
            "miles 9 400;rest 20 30;judged 4 10;"},
        {"game 0 1;day 2;soft;game 1 2;day 5;game 2 0;at 1;game 0 2;empty;game 1 0;", "game 2 1;day 9;at 1;game 0 1;people;soft;game 2 0;",
            "game 3 0;soft;day 1;game 1 3;strict;day 3;game 0 2;game 3 1;game 1 0;game 2 3;"}};

    /** Of three of each, just those that are asked for answer: as an object does that has no others. */
    private static void eachOfThree() {
        says(TERMS, "LEAGUES, LAWS, PLANS, at most 3 of each, from 0 on");
        long together = 0;
        for (int pick = 0; pick < 27; pick++) {
            int league = pick % 3;
            int law = pick / 3 % 3;
            int plan = pick / 9;
            HomeGround x = new HomeGround();
            for (int sort = 0; sort < 3; sort++) {
                for (int k = 0; k < 3; k++) {
                    is("text", Due.text(x, sort, NONE, TEXTS[sort][k]), k);
                }
            }
            HomeGround y = told(TEXTS[LEAGUE][league], TEXTS[LAW][law], TEXTS[PLAN][plan]);
            is("other law", Due.text(y, LAW, NONE, TEXTS[LAW][(law + 1) % 3]), 1);
            long[] want = answers(y, 0, 0, 1, 0);
            long[] have = answers(x, league, law, (law + 1) % 3, plan);
            String call = "league " + league + " law " + law + " plan " + plan;
            is(call + " first other answer", java.util.Arrays.mismatch(want, have), -1);
            is(call + " goes", x.goes(league, plan), league != 1 || plan != 2);
            together += want[0];
        }
        is("which of them go", together, 24);
    }

    private static long[] answers(HomeGround x, int league, int law, int other, int plan) {
        java.util.List<Long> all = new java.util.ArrayList<>();
        all.add(x.goes(league, plan) ? 1L : 0L);
        all.add((long) x.turned(league, plan));
        all.add((long) x.uneven(plan));
        all.add(x.rule(league, law, other, plan));
        all.add((long) x.best(league, law, plan, 250));
        all.add((long) x.play(league, law, plan, 5, 6));
        for (int game = 0; game < 6; game++) {
            for (int what = 0; what < 10; what++) {
                all.add((long) x.worth(league, law, plan, game, what));
                all.add((long) x.noted(game, what));
            }
            for (int what = 0; what < 4; what++) {
                all.add(x.chance(league, law, plan, game, what));
            }
            all.add(x.bet(league, law, plan, game, 250));
            all.add((long) x.fair(league, law, plan, game));
            all.add((long) x.early(league, plan, game));
            all.add((long) x.like(league, law, plan, game));
            all.add((long) x.single(league, law, plan, game));
            all.add((long) x.felt(league, law, plan, game, 6, false));
            all.add((long) x.felt(league, law, plan, game, 6, true));
            all.add(x.less(league, law, plan, game));
            all.add((long) x.travel(league, plan, game));
            all.add((long) x.runs(plan, game, true));
            all.add((long) x.runs(plan, game, false));
            all.add((long) x.plan(plan, game, 0));
            all.add((long) x.law(law, 10 + game));
            all.add((long) x.law(law, 20 + game));
            all.add((long) x.league(league, 50 + game));
            all.add((long) x.league(league, 10 + game));
            all.add((long) x.miles(league, 0, game));
        }
        return all.stream().mapToLong(Long::longValue).toArray();
    }
}
