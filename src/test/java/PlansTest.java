/** Promises 32 to 36: what a PLAN leans, by hand. */
public final class PlansTest {
    private static final int NONE = HomeGround.NONE;
    private static final int NO_SHARE = -1000000;
    private static final Due DUE = new Due();

    /** Sides 0 and 4 have ground 0, side 1 has 1, 2 has 2; side 3 plays nowhere. Ground 3 is nobody's. */
    private static final String LEAGUE = "ground 0 0 0;ground 0 0 0;ground 0 0 0;ground 0 0 0;"
        + "side 0 10;side 1 25;side 2 50;side 3 1;side 0 7;"
        + "miles 0 1 100;miles 0 2 20;miles 1 2 3000;miles 1 3 7;miles 0 3 9999;";

    public static void main(String[] args) {
        travel();
        runs();
        early();
        uneven();
        turned();
        none();
        DUE.end();
    }

    private static HomeGround told(String plan) {
        HomeGround x = new HomeGround();
        Due.text(x, 0, NONE, LEAGUE);
        Due.text(x, 2, NONE, plan);
        return x;
    }

    /** Promise 32. */
    private static void travel() {
        HomeGround x = told("game 0 1;game 1 2;game 1 0;game 0 2;");
        // 0: 0, 0, 1, 0, 0; 1: 1, 0, 1, 1, 1; 2: 2, 1, 0, 2
        int[] want = {200, 200, 3000 + 100 + 20, 0, 0};
        for (int side = 0; side < 5; side++) {
            DUE.is("travel of " + side, x.travel(0, 0, side), want[side]);
        }
        DUE.is("travel of 5", x.travel(0, 0, 5), NONE);
        DUE.is("travel of -1", x.travel(0, 0, -1), NONE);
        HomeGround y = told("at 3;game 0 1;game 2 1;game 4 0;at 0;game 2 1;");
        // 0: 0, 3, 0, 0; 1: 1, 3, 2, 0, 1; 2: 2, 2, 0, 2; 4 at home
        int[] other = {9999 * 2, 7 + 0 + 20 + 100, 40, 0, 0};
        for (int side = 0; side < 5; side++) {
            DUE.is("travel elsewhere of " + side, y.travel(0, 0, side), other[side]);
        }
        HomeGround z = told("");
        DUE.is("travel of no games", z.travel(0, 0, 1), 0);
    }

    /** Promise 33. */
    private static void runs() {
        HomeGround x = told("game 0 1;game 2 3;game 0 2;game 1 0;game 0 3;game 3 0;game 2 0;game 1 0;game 0 7;game 0 7;");
        DUE.is("0 at home", x.runs(0, 0, true), 2);
        DUE.is("0 as guest", x.runs(0, 0, false), 3);
        DUE.is("1 at home", x.runs(0, 1, true), 2);
        DUE.is("1 as guest", x.runs(0, 1, false), 1);
        DUE.is("2 at home", x.runs(0, 2, true), 1);
        DUE.is("2 as guest", x.runs(0, 2, false), 1);
        DUE.is("3 at home", x.runs(0, 3, true), 1);
        DUE.is("3 as guest", x.runs(0, 3, false), 2);
        DUE.is("7 at home", x.runs(0, 7, true), 0);
        DUE.is("7 as guest", x.runs(0, 7, false), 2);
        DUE.is("5 plays none", x.runs(0, 5, true), 0);
        DUE.is("5 plays none", x.runs(0, 5, false), 0);
        for (int side : new int[] {-1, 8, Integer.MAX_VALUE, Integer.MIN_VALUE}) {
            DUE.is("runs of " + side, x.runs(0, side, true), NONE);
            DUE.is("runs of " + side, x.runs(0, side, false), NONE);
        }
        for (int plan : new int[] {-1, 1, 2, 3, Integer.MAX_VALUE, Integer.MIN_VALUE}) {
            DUE.is("runs in " + plan, x.runs(plan, 0, true), NONE);
        }
    }

    /** Promise 34. */
    private static void early() {
        HomeGround x = told("game 0 1;game 2 3;at 1;game 4 2;game 1 0;");
        int[] want = {0, -15, 34, -9, 6};
        for (int n = 0; n <= 4; n++) {
            DUE.is("early of " + n, x.early(0, 0, n), want[n]);
        }
        for (int n : new int[] {-1, 5, 41, Integer.MAX_VALUE, Integer.MIN_VALUE}) {
            DUE.is("early of " + n, x.early(0, 0, n), NO_SHARE);
        }
        DUE.is("early of no games", told("").early(0, 0, 0), 0);
    }

    /** Promise 35. */
    private static void uneven() {
        DUE.is("no games", told("").uneven(0), 0);
        DUE.is("one game", told("game 7 6;").uneven(0), 1);
        DUE.is("there and back", told("game 7 6;at 3;game 6 7;").uneven(0), 0);
        DUE.is("twice and back", told("game 7 6;game 7 6;game 6 7;").uneven(0), 1);
        DUE.is("round", told("game 0 1;game 1 2;game 2 0;").uneven(0), 3);
        DUE.is("some", told("game 0 1;game 1 2;game 1 0;game 2 1;game 1 2;game 3 0;game 0 7;game 7 0;").uneven(0), 2);
        HomeGround x = told("game 0 1;");
        for (int plan : new int[] {-1, 1, 2, 3, Integer.MAX_VALUE, Integer.MIN_VALUE}) {
            DUE.is("uneven of " + plan, x.uneven(plan), NONE);
        }
    }

    /** Promise 36. */
    private static void turned() {
        DUE.is("no games", told("").turned(0, 0), NONE);
        // 1 and 2 alone: there or here, it is as far
        DUE.is("as far", told("game 1 2;").turned(0, 0), NONE);
        DUE.is("the first saves most", told("game 1 2;game 0 1;game 2 1;game 1 0;").turned(0, 0), 0);
        DUE.is("one stay each", told("game 0 1;game 1 0;game 0 1;").turned(0, 0), 1);
        // by 1 and by 2 from 800 to 400, by 0 and by 3 to 600
        DUE.is("of several the least", told("game 0 1;game 1 0;game 0 1;game 1 0;").turned(0, 0), 1);
        DUE.is("the way by 0 is shorter", told("game 0 1;game 1 2;game 4 1;").turned(0, 0), 1);
        DUE.is("another ground stays", told("at 0;game 0 1;at 1;game 1 2;at 0;game 4 1;").turned(0, 0), NONE);
        DUE.is("sides of one ground", told("game 0 4;game 4 0;").turned(0, 0), NONE);
        // 0 stays at home all the time, and 2 goes no farther
        DUE.is("the last", told("game 0 2;game 1 2;game 0 2;game 2 0;").turned(0, 0), 3);
    }

    private static void none() {
        HomeGround x = told("game 0 1;game 1 0;");
        for (int k : new int[] {-1, 1, 2, 3, Integer.MAX_VALUE, Integer.MIN_VALUE}) {
            none(x, k, 0);
            none(x, 0, k);
        }
        Due.text(x, 2, 0, "game 0 5;");
        none(x, 0, 0);
        Due.text(x, 2, 0, "at 4;game 0 1;");
        none(x, 0, 0);
        DUE.is("runs need no league", x.runs(0, 0, true), 1);
        DUE.is("uneven needs no league", x.uneven(0), 1);
    }

    private static void none(HomeGround x, int league, int plan) {
        String call = " " + league + " " + plan;
        DUE.is("travel" + call, x.travel(league, plan, 0), NONE);
        DUE.is("early" + call, x.early(league, plan, 0), NO_SHARE);
        DUE.is("turned" + call, x.turned(league, plan), NONE);
    }
}
