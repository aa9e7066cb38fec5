import java.util.Random;

/** Promises 14 to 31: what is NOTED, films and bets, by hand; least squares also against Model. */
public final class NotedTest {
    private static final int NONE = HomeGround.NONE;
    private static final int NO_SHARE = -1000000;
    private static final long NO_LONG = -1000000000000000L;
    private static final Due DUE = new Due();

    public static void main(String[] args) {
        note();
        noted();
        sums();
        tables();
        alone();
        both();
        bothNot();
        bothLarge();
        people();
        slope();
        odds();
        judges();
        fresh();
        films();
        bets();
        DUE.end();
    }

    private static HomeGround with(int[]... notes) {
        HomeGround x = new HomeGround();
        for (int[] n : notes) {
            x.note(n[0], n[1], n[2], n[3], n.length > 4 ? n[4] : 0, n.length > 5 ? n[5] : 0, n.length > 6 ? n[6] : 0,
                n.length > 7 ? n[7] : 0);
        }
        return x;
    }

    private static int[] n(int... numbers) {
        return numbers;
    }

    /** Promise 14. */
    private static void note() {
        int[] least = {0, 1, 0, 0, 0, 0, 0, 0};
        int[] most = {7, 6, 59, 99, 99, 19, 999, 7};
        HomeGround x = new HomeGround();
        DUE.is("least", x.note(0, 1, 0, 0, 0, 0, 0, 0), 0);
        DUE.is("most", x.note(7, 6, 59, 99, 99, 19, 999, 7), 1);
        DUE.is("most", x.note(6, 7, 59, 99, 99, 19, 999, 7), 2);
        for (int i = 0; i < 8; i++) {
            for (int off = 0; off < 2; off++) {
                int[] n = off == 0 ? least.clone() : most.clone();
                n[i] += off == 0 ? i == 1 ? -2 : -1 : i == 1 ? 2 : 1;
                DUE.is("note, number " + i + " off", x.note(n[0], n[1], n[2], n[3], n[4], n[5], n[6], n[7]), NONE);
                n[i] = off == 0 ? Integer.MIN_VALUE : Integer.MAX_VALUE;
                DUE.is("note, number " + i + " far off", x.note(n[0], n[1], n[2], n[3], n[4], n[5], n[6], n[7]), NONE);
            }
        }
        DUE.is("one side alone", x.note(3, 3, 0, 0, 0, 0, 0, 0), NONE);
        DUE.is("count", x.count(3), 3);
        for (int k = 3; k < 80; k++) {
            DUE.is("note " + k, x.note(1, 0, k % 60, 0, 0, 0, 0, 0), k);
        }
        DUE.is("an 81st", x.note(1, 0, 0, 0, 0, 0, 0, 0), NONE);
        DUE.is("count", x.count(3), 80);
        DUE.is("the last", x.noted(79, 2), 19);
        DUE.is("none behind", x.noted(80, 2), NONE);
    }

    /** Promise 15. */
    private static void noted() {
        HomeGround x = with(n(7, 2, 31, 46, 58, 19, 777, 3), n(1, 0, 0, 90, 7, 1, 0, 6));
        int[][] want = {{7, 2, 31, 4, 6, 5, 8, 19, 777, 3}, {1, 0, 0, 9, 0, 0, 7, 1, 0, 6}};
        for (int k = 0; k < 2; k++) {
            for (int what = 0; what < 10; what++) {
                DUE.is("noted " + k + " " + what, x.noted(k, what), want[k][what]);
            }
            DUE.is("what -1", x.noted(k, -1), NONE);
            DUE.is("what 10", x.noted(k, 10), NONE);
        }
        DUE.is("noted 2", x.noted(2, 0), NONE);
        DUE.is("noted -1", x.noted(-1, 0), NONE);
        DUE.is("noted -1, what 10", x.noted(-1, 10), NONE);
    }

    /** Promise 16. */
    private static void sums() {
        HomeGround x = with(n(0, 1, 5, 31), n(1, 0, 5, 22), n(0, 2, 7, 1), n(2, 1, 6, 10), n(1, 2, 6, 97));
        int[][] want = {{5, 3, 1, 1, 15, 11}, {2, 1, 1, 0, 5, 3}, {2, 2, 0, 0, 10, 7}, {1, 0, 0, 1, 0, 1}, {0, 0, 0, 0, 0, 0}};
        int[][] years = {{0, 59}, {5, 5}, {6, 6}, {7, 59}, {8, 59}};
        for (int k = 0; k < 5; k++) {
            for (int what = 0; what < 6; what++) {
                DUE.is("sum of " + k + " " + what, x.sum(years[k][0], years[k][1], what), want[k][what]);
            }
            DUE.is("what 6", x.sum(years[k][0], years[k][1], 6), NONE);
            DUE.is("what -1", x.sum(years[k][0], years[k][1], -1), NONE);
        }
        DUE.is("all years", x.sum(Integer.MIN_VALUE, Integer.MAX_VALUE, 0), 5);
        DUE.is("years the wrong way", x.sum(6, 5, 0), 0);
    }

    /** Promises 17 and 18. */
    private static void tables() {
        // points 3: side 5 by +1, 4 by +2; 1: side 2 with more goals than 6 and 7, which are alike; 0: 1 by -1, 3 by -2
        HomeGround x = with(n(5, 1, 3, 10), n(3, 4, 3, 2), n(2, 6, 3, 22), n(6, 7, 4, 0), n(7, 6, 4, 55));
        int[] first = {4, 5, 2, 6, 1, 3};
        for (int place = 0; place < 6; place++) {
            DUE.is("place " + place, x.table(3, 3, place), first[place]);
        }
        DUE.is("no 7th place", x.table(3, 3, 6), NONE);
        DUE.is("no place -1", x.table(3, 3, -1), NONE);
        int[] points = {0, 0, 1, 0, 3, 3, 1, 0};
        for (int side = 0; side < 8; side++) {
            DUE.is("points of " + side, x.points(3, 3, side), points[side]);
        }
        DUE.is("side 8", x.points(3, 3, 8), NONE);
        DUE.is("side -1", x.points(3, 3, -1), NONE);
        // all even: 6 and 7 have 2 points each and as many goals, so the least is first
        DUE.is("the least side first", x.table(4, 4, 0), 6);
        DUE.is("the other one then", x.table(4, 4, 1), 7);
        DUE.is("two places", x.table(4, 4, 2), NONE);
        DUE.is("two points", x.points(4, 4, 6), 2);
        DUE.is("no games", x.table(5, 59, 0), NONE);
        DUE.is("no games", x.points(5, 59, 6), 0);
        // goals go before the side's number, and goals less goals of others before goals, points before both
        HomeGround y = with(n(0, 1, 1, 11), n(2, 3, 1, 22), n(4, 5, 2, 10), n(6, 7, 2, 98), n(2, 0, 3, 90), n(1, 0, 3, 10),
            n(3, 1, 3, 11), n(3, 2, 3, 0), n(3, 2, 3, 10));
        DUE.is("more goals first", y.table(1, 1, 0), 2);
        DUE.is("more goals first", y.table(1, 1, 1), 3);
        DUE.is("fewer goals then", y.table(1, 1, 2), 0);
        DUE.is("more goals first", y.table(2, 2, 0), 6);
        DUE.is("more goals of those behind", y.table(2, 2, 2), 7);
        DUE.is("points first", y.table(3, 3, 0), 3);
        DUE.is("a lead of eight then", y.table(3, 3, 1), 2);
    }

    /** Promise 19. */
    private static void alone() {
        HomeGround x = with(n(0, 1, 5, 31), n(1, 0, 5, 22), n(0, 2, 7, 1), n(2, 1, 8, 10), n(2, 1, 9, 15), n(1, 2, 10, 42));
        DUE.share("alone 5", x.alone(5, 5, false), x.alone(5, 5, true), 1, 1);
        DUE.share("alone 5 to 7", x.alone(5, 7, false), x.alone(5, 7, true), 1, 3);
        DUE.share("alone 5 to 8", x.alone(5, 8, false), x.alone(5, 8, true), 1, 2);
        DUE.share("alone 7 to 8, nought", x.alone(7, 8, false), x.alone(7, 8, true), 0, 1);
        DUE.share("alone 7 to 9", x.alone(7, 9, false), x.alone(7, 9, true), -4, 3);
        DUE.share("alone 9 to 10", x.alone(9, 10, false), x.alone(9, 10, true), -1, 1);
        DUE.share("alone of none", x.alone(0, 4, false), x.alone(0, 4, true), NO_SHARE, NO_SHARE);
        DUE.share("alone of none", x.alone(7, 6, false), x.alone(7, 6, true), NO_SHARE, NO_SHARE);
    }

    private static void both(HomeGround x, int from, int to, int side, long over, long under) {
        DUE.share("both of " + from + " to " + to + " side " + side, x.both(from, to, side, false),
            x.both(from, to, side, true), over, under);
    }

    /** Promises 20 and 21. */
    private static void both() {
        // two games of a couple: H is half of both margins, the STRENGTH half of their difference
        HomeGround x = with(n(3, 6, 5, 40), n(6, 3, 5, 10), n(3, 6, 6, 20), n(6, 3, 6, 13));
        both(x, 5, 5, NONE, 5, 2);
        both(x, 5, 5, 3, 0, 1);
        both(x, 5, 5, 6, -3, 2);
        both(x, 5, 5, 0, NO_LONG, NO_LONG);
        DUE.share("off", x.off(5, 5, false), x.off(5, 5, true), 0, 1);
        both(x, 6, 6, NONE, 0, 1);
        both(x, 6, 6, 6, -2, 1);
        both(x, 5, 6, NONE, 5, 4);
        both(x, 5, 6, 6, -7, 4);
        // three games: 3 at home to 6 twice, by 4 and by 1: H - s = 5 / 2, H + s = 1
        HomeGround y = with(n(3, 6, 5, 40), n(6, 3, 5, 10), n(3, 6, 6, 10));
        both(y, 0, 59, NONE, 7, 4);
        both(y, 0, 59, 6, -3, 4);
        DUE.share("off, 2 less 7 / 4", y.off(0, 59, false), y.off(0, 59, true), 1, 4);
        HomeGround z = with(n(3, 6, 5, 4), n(6, 3, 5, 10), n(6, 3, 6, 10));
        both(z, 0, 59, NONE, -3, 2);
        both(z, 0, 59, 6, 5, 2);
        DUE.share("off, -2 / 3 less -3 / 2", z.off(0, 59, false), z.off(0, 59, true), 5, 6);
    }

    private static void bothNot() {
        HomeGround x = with(n(0, 1, 1, 10), n(0, 1, 2, 20), n(1, 0, 3, 10), n(2, 3, 4, 20), n(3, 2, 5, 20), n(1, 2, 6, 30),
            n(4, 0, 7, 0), n(5, 0, 8, 0), n(6, 0, 9, 0));
        for (int[] years : new int[][] {{0, 0}, {2, 1}, {1, 1}, {1, 2}, {6, 6}, {1, 5}, {1, 9}}) {
            String call = " of " + years[0] + " to " + years[1];
            for (int side = -2; side < 9; side++) {
                DUE.is("both" + call, x.both(years[0], years[1], side, false), NO_LONG);
                DUE.is("both" + call, x.both(years[0], years[1], side, true), NO_LONG);
            }
            DUE.is("off" + call, x.off(years[0], years[1], false), NO_LONG);
            DUE.is("off" + call, x.off(years[0], years[1], true), NO_LONG);
        }
        // six sides, and seven; the wrong sides of a good one
        DUE.is("four sides", x.both(1, 6, NONE, true) != NO_LONG, true);
        DUE.is("six sides", x.both(1, 8, NONE, true) != NO_LONG, true);
        DUE.is("six sides", x.off(1, 8, true) != NO_LONG, true);
        DUE.is("six of seven sides", x.both(2, 9, NONE, true), NO_LONG);
        for (int side : new int[] {-2, 6, 7, 8, Integer.MAX_VALUE, Integer.MIN_VALUE}) {
            both(x, 1, 8, side, NO_LONG, NO_LONG);
        }
    }

    /** As many games of as many sides as may be, with the greatest margins: no product leaves a long. */
    private static void bothLarge() {
        for (int run = 0; run < 150; run++) {
            Random random = new Random(run);
            HomeGround x = new HomeGround();
            Model model = new Model();
            int sides = run < 100 ? 6 : 2 + run % 5;
            for (int k = 0; k < 80; k++) {
                int home = run % 3 == 0 ? k % sides : random.nextInt(sides);
                int guest = (home + 1 + (run % 3 == 0 ? k / sides % (sides - 1) : random.nextInt(sides - 1))) % sides;
                int goals = run % 2 == 0 ? home < guest ? 90 : 9 : random.nextInt(100);
                x.note(home, guest, 1, goals, 0, 0, 0, 0);
                model.note(home, guest, 1, goals, 0, 0, 0, 0);
            }
            for (int side = NONE; side < sides; side++) {
                DUE.is("both over, run " + run, x.both(0, 9, side, false), model.both(0, 9, side, false));
                DUE.is("both under, run " + run, x.both(0, 9, side, true), model.both(0, 9, side, true));
            }
            DUE.is("off over, run " + run, x.off(0, 9, false), model.off(0, 9, false));
            DUE.is("off under, run " + run, x.off(0, 9, true), model.off(0, 9, true));
        }
    }

    /** Promise 22. */
    private static void people() {
        HomeGround x = with(n(0, 1, 5, 31, 0, 0, 500), n(1, 0, 5, 22, 0, 0, 0), n(0, 2, 7, 1, 0, 0, 300),
            n(2, 1, 6, 10, 0, 0, 999), n(2, 1, 8, 15, 0, 0, 300));
        DUE.share("people by 300", x.people(0, 59, 300, false), x.people(0, 59, 300, true), -1, 2);
        DUE.share("people by 301", x.people(0, 59, 301, false), x.people(0, 59, 301, true), 19, 6);
        DUE.share("people by 1", x.people(5, 7, 1, false), x.people(5, 7, 1, true), 2, 3);
        DUE.share("people by 999", x.people(5, 6, 999, false), x.people(5, 6, 999, true), 0, 1);
        for (int l : new int[] {-1, 0, 1000, 1001, Integer.MAX_VALUE, Integer.MIN_VALUE}) {
            DUE.is("people by " + l, x.people(0, 59, l, false), NO_SHARE);
            DUE.is("people by " + l, x.people(0, 59, l, true), NO_SHARE);
        }
        DUE.is("of no games", x.people(9, 59, 300, true), NO_SHARE);
        DUE.is("of none without", x.people(7, 8, 300, true), NO_SHARE);
        DUE.is("of none with", x.people(7, 8, 301, true), NO_SHARE);
    }

    /** Promise 23. */
    private static void slope() {
        HomeGround x = with(n(0, 1, 0, 10), n(0, 1, 1, 30), n(0, 1, 3, 30), n(0, 1, 3, 50), n(0, 1, 59, 9));
        DUE.share("a line", x.slope(0, 1, false), x.slope(0, 1, true), 2, 1);
        DUE.share("a flat line", x.slope(1, 1, false), x.slope(1, 1, true), NO_SHARE, NO_SHARE);
        DUE.share("one year", x.slope(2, 3, false), x.slope(2, 3, true), NO_SHARE, NO_SHARE);
        DUE.share("none", x.slope(4, 58, false), x.slope(4, 58, true), NO_SHARE, NO_SHARE);
        // years 1, 3, 3: 4 / 3 by 8 / 3
        DUE.share("three", x.slope(1, 3, false), x.slope(1, 3, true), 1, 2);
        // years 0, 1, 3, 3, margins 1, 3, 3, 5: (4 * 27 - 7 * 12) by (4 * 19 - 49)
        DUE.share("four", x.slope(0, 3, false), x.slope(0, 3, true), 8, 9);
        DUE.share("downwards", x.slope(3, 59, false), x.slope(3, 59, true), -13, 56);
        HomeGround y = with(n(0, 1, 3, 22), n(0, 1, 9, 44));
        DUE.share("nought", y.slope(3, 9, false), y.slope(3, 9, true), 0, 1);
    }

    /** Promise 24. */
    private static void odds() {
        HomeGround x = with(n(0, 1, 5, 31, 0, 0, 500), n(1, 0, 5, 22, 0, 0, 0), n(0, 2, 7, 1, 0, 0, 300),
            n(2, 1, 6, 10, 0, 0, 999), n(2, 1, 8, 15, 0, 0, 300));
        // of 5 games 2 wins; by 300 there are 4, 2 of them wins; by 301 2, both wins; by 999 1, a win
        long[][] want = {{0, 1, 1}, {300, 3, 5}, {301, 1, 10}, {999, 2, 5}, {1000, 1, 1}};
        for (long[] w : want) {
            DUE.is("odds by " + w[0], x.odds(0, 59, (int) w[0], false), w[1]);
            DUE.is("all ways by " + w[0], x.odds(0, 59, (int) w[0], true), w[2]);
        }
        DUE.is("of no games", x.odds(9, 59, 5, false), 1);
        DUE.is("of no games", x.odds(9, 59, 5, true), 1);
        for (int l : new int[] {-1, 1001, Integer.MAX_VALUE, Integer.MIN_VALUE}) {
            DUE.is("odds by " + l, x.odds(0, 59, l, false), NONE);
            DUE.is("all ways by " + l, x.odds(0, 59, l, true), NONE);
        }
        HomeGround y = new HomeGround();
        for (int k = 0; k < 61; k++) {
            y.note(0, 1, k < 60 ? 1 : 2, k % 3 == 0 ? 10 : 1, 0, 0, k % 2 == 0 ? 900 : 0, 0);
        }
        DUE.is("60 over 30", y.odds(1, 1, 900, true), 118264581564861424L);
        DUE.is("60 over 60", y.odds(1, 1, 0, true), 1);
        DUE.is("at least none", y.odds(1, 1, 1000, false), 1);
        // wins are 0, 3, .. 57, of which half are loud: 10 of 20 or more
        DUE.is("at least half", y.odds(1, 1, 900, false) * 2 > 118264581564861424L, true);
        DUE.is("61", y.odds(1, 2, 900, true), NONE);
        DUE.is("61", y.odds(1, 2, 900, false), NONE);
        DUE.is("1 of 61", y.odds(2, 2, 900, true), 1);
    }

    /** Promises 25 and 26. */
    private static void judges() {
        HomeGround x = with(n(0, 1, 5, 31, 12, 4, 0, 2), n(1, 0, 5, 22, 3, 6, 0, 2), n(0, 2, 7, 1, 91, 7, 0, 2),
            n(2, 1, 6, 10, 0, 3, 0, 1), n(1, 2, 6, 21, 0, 2, 0, 2), n(1, 2, 6, 98, 0, 5, 0, 2), n(1, 2, 8, 23, 0, 0, 0, 2),
            n(1, 2, 8, 20, 0, 19, 0, 2), n(1, 2, 8, 2, 0, 19, 0, 2), n(3, 4, 9, 89, 5, 9, 0, 7), n(3, 4, 9, 0, 5, 9, 0, 0));
        DUE.is("carded 2", x.carded(0, 59, 2), 1 + 3 - 8);
        DUE.is("carded 2 of year 5", x.carded(5, 5, 2), 4);
        DUE.is("carded 1", x.carded(0, 59, 1), 0);
        DUE.is("carded 7", x.carded(0, 59, 7), 5);
        DUE.is("carded 0", x.carded(0, 59, 0), 5);
        DUE.is("carded 1 of year 5", x.carded(5, 5, 1), NO_SHARE);
        for (int judge : new int[] {-1, 3, 8, Integer.MAX_VALUE, Integer.MIN_VALUE}) {
            DUE.is("carded " + judge, x.carded(0, 59, judge), NO_SHARE);
            DUE.is("longer " + judge, x.longer(0, 59, judge, true), NO_SHARE);
        }
        // one behind: 7 and 0 minutes; one ahead: 2 and 5
        DUE.share("longer", x.longer(0, 59, 2, false), x.longer(0, 59, 2, true), 0, 1);
        DUE.share("longer of 6 to 7", x.longer(6, 7, 2, false), x.longer(6, 7, 2, true), 7, 2);
        DUE.share("longer of none behind", x.longer(6, 6, 2, false), x.longer(6, 6, 2, true), NO_SHARE, NO_SHARE);
        DUE.share("longer of none ahead", x.longer(7, 8, 2, false), x.longer(7, 8, 2, true), NO_SHARE, NO_SHARE);
        DUE.share("longer of another judge", x.longer(0, 59, 7, false), x.longer(0, 59, 7, true), NO_SHARE, NO_SHARE);
        x.note(3, 4, 59, 98, 0, 12, 0, 7);
        DUE.share("longer of 7", x.longer(0, 59, 7, false), x.longer(0, 59, 7, true), -3, 1);
    }

    /** Promise 27. */
    private static void fresh() {
        // by years at home: 1 a win, 4 as many, 4 lost, 6 won; of side 2 none but as guest
        HomeGround x = with(n(0, 2, 6, 10), n(0, 2, 4, 11), n(0, 2, 4, 12), n(0, 2, 1, 30), n(1, 2, 3, 30));
        DUE.is("fresh by 1", x.fresh(0, 0, 1), 3 - 1);
        DUE.is("fresh by 2", x.fresh(0, 0, 2), 4 - 3);
        DUE.is("fresh by 3", x.fresh(0, 0, 3), NO_SHARE);
        DUE.is("fresh by 1 from 2", x.fresh(0, 2, 1), 1);
        DUE.is("fresh by 1 from 4", x.fresh(0, 4, 1), 1);
        DUE.is("fresh by 1 from 5", x.fresh(0, 5, 1), NO_SHARE);
        DUE.is("fresh by 2 from 2", x.fresh(0, 2, 2), NO_SHARE);
        DUE.is("fresh as guest", x.fresh(2, 0, 1), NO_SHARE);
        DUE.is("fresh of one game", x.fresh(1, 0, 1), NO_SHARE);
        for (int off : new int[] {-1, 0, 41, Integer.MAX_VALUE, Integer.MIN_VALUE, 1 << 30, 1 << 31}) {
            DUE.is("fresh by " + off, x.fresh(0, 0, off), NO_SHARE);
        }
        for (int side : new int[] {-1, 8, Integer.MAX_VALUE, Integer.MIN_VALUE}) {
            DUE.is("fresh of " + side, x.fresh(side, 0, 1), NO_SHARE);
        }
        DUE.is("from 60", x.fresh(0, 60, 1), NO_SHARE);
        HomeGround y = new HomeGround();
        for (int k = 0; k < 80; k++) {
            y.note(7, 0, 59 - k / 2, k < 40 ? 10 : 11, 0, 0, 0, 0);
        }
        DUE.is("fresh by 40", y.fresh(7, 0, 40), 40 - 120);
        DUE.is("fresh by 40 from 20", y.fresh(7, 20, 40), 40 - 120);
        DUE.is("fresh by 40 from 21", y.fresh(7, 21, 40), NO_SHARE);
        // of one year as noted: a win, then as many
        HomeGround z = with(n(0, 2, 6, 10), n(0, 2, 6, 11), n(0, 2, 6, 1));
        DUE.is("of one year", z.fresh(0, 6, 1), 2);
    }

    /** Promises 28 and 29. */
    private static void films() {
        HomeGround x = new HomeGround();
        DUE.is("films", x.films(1, true, 3, 1), true);
        DUE.is("films", x.films(1, false, 2, 2), true);
        DUE.is("looser", x.looser(1, false), 3);
        DUE.is("all ways", x.looser(1, true), 10);
        DUE.is("gave above shown", x.films(1, false, 2, 3), false);
        DUE.is("shown 31", x.films(1, false, 31, 3), false);
        DUE.is("shown -1", x.films(1, false, -1, -1), false);
        DUE.is("gave -1", x.films(1, false, 2, -1), false);
        DUE.is("judge 8", x.films(8, false, 2, 1), false);
        DUE.is("judge -1", x.films(-1, true, 2, 1), false);
        DUE.is("nothing changed", x.looser(1, false), 3);
        DUE.is("another judge", x.looser(0, false), 1);
        DUE.is("another judge", x.looser(2, true), 1);
        DUE.is("later ones", x.films(1, false, 2, 0), true);
        DUE.is("at least none", x.looser(1, false), 10);
        DUE.is("later ones", x.films(1, true, 0, 0), true);
        DUE.is("without alone", x.looser(1, true), 1);
        x.films(0, true, 30, 15);
        DUE.is("none without", x.looser(0, true), 1);
        x.films(0, false, 30, 30);
        DUE.is("60 over 30", x.looser(0, true), 118264581564861424L);
        // 45 of 60 given, 30 of 30: 45 over 30
        DUE.is("all given", x.looser(0, false), 344867425584L);
        x.films(7, false, 30, 0);
        x.films(7, true, 30, 30);
        DUE.is("the last judge", x.looser(7, false), 118264581564861424L);
        for (int judge : new int[] {-1, 8, Integer.MAX_VALUE, Integer.MIN_VALUE}) {
            DUE.is("looser of " + judge, x.looser(judge, false), NONE);
            DUE.is("looser of " + judge, x.looser(judge, true), NONE);
        }
    }

    /** Promises 30 and 31. */
    private static void bets() {
        // by years: lost, won, as many, won
        HomeGround x = with(n(0, 1, 9, 31), n(1, 0, 5, 22), n(0, 2, 3, 1), n(2, 1, 4, 10));
        DUE.is("had", x.had(0, 59, 250), 100);
        DUE.is("had at 101", x.had(0, 59, 101), -198);
        DUE.is("had at 999", x.had(0, 59, 999), 1598);
        DUE.is("had of some", x.had(4, 5, 150), -50);
        DUE.is("had of none", x.had(10, 59, 150), 0);
        for (int price : new int[] {100, 1000, -1, Integer.MAX_VALUE, Integer.MIN_VALUE}) {
            DUE.is("had at " + price, x.had(0, 59, price), NO_SHARE);
            DUE.is("fixed at " + price, x.fixed(0, 59, price, 0), NONE);
        }
        // at 150: -100, -50, -150, -100
        int[][] want = {{0, 1}, {99, 1}, {100, 3}, {149, 3}, {150, 4}, {9999, 4}};
        for (int[] w : want) {
            DUE.is("fixed by " + w[0], x.fixed(0, 59, 150, w[0]), w[1]);
        }
        DUE.is("fixed of some", x.fixed(4, 5, 150, 49), 2);
        DUE.is("fixed of those never below", x.fixed(4, 5, 250, 0), 2);
        DUE.is("fixed of those never below 0", x.fixed(4, 5, 200, 0), 2);
        DUE.is("fixed of none", x.fixed(10, 59, 150, 0), 0);
        for (int s : new int[] {-1, 10000, Integer.MAX_VALUE, Integer.MIN_VALUE}) {
            DUE.is("fixed by " + s, x.fixed(0, 59, 150, s), NONE);
        }
        // of one year as noted: won first
        HomeGround y = with(n(0, 1, 9, 31), n(1, 0, 9, 22), n(1, 0, 8, 10));
        DUE.is("won first", y.fixed(0, 59, 120, 0), 3);
        HomeGround z = with(n(1, 0, 9, 22), n(0, 1, 9, 31), n(1, 0, 8, 10));
        DUE.is("as many first", z.fixed(0, 59, 120, 0), 2);
    }
}
