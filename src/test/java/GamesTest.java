/** Promises 10 to 13 and 37 to 44: what GAMES are worth, by hand. */
public final class GamesTest {
    private static final int NONE = HomeGround.NONE;
    private static final int NO_SHARE = -1000000;
    private static final long LEAST = Long.MIN_VALUE;
    private static final Due DUE = new Due();

    private static final String LEAGUE = "ground 10 3 400;ground 60 0 999;ground 0 99 99;ground 35 9 505;"
        + "side 0 20;side 1 25;side 0 0;side 2 50;"
        + "miles 0 1 250;miles 1 2 999;miles 0 2 40;miles 0 3 7;miles 2 3 500;";
    private static final String LAW = "base 40;known 10;miles 2 100;rest 7 5;sung 3 30;judged 5 40;height 4 20;";
    private static final String PLAN = "game 0 1;day 3;soft;game 1 0;day 5;game 2 0;day 9;strict;empty;at 3;game 3 2;"
        + "day 10;people;at 2;game 2 3;day 15;game 0 3;day 16;game 1 3;day 20;game 0 1;";
    /** PARTS, EDGE, LOUD, p, q of each GAME of PLAN by LAW. */
    private static final int[][] WORTHS = {
        {10, 4, 0, 9, 0, 0, 23, 100, 58, 45},
        {10, 4, 0, 50, 50, 8, 122, 999, 100, 35},
        {0, 0, 7, 9, 10, 0, 26, 100, 46, 60},
        {0, 0, 7, 0, 0, 4, 11, 0, 100, 0},
        {0, 0, 0, 0, 0, 0, 0, 0, 0, 90},
        {10, 0, 0, 9, 0, 0, 19, 100, 29, 70},
        {10, 18, 7, 50, 0, 12, 97, 999, 100, 65},
        {10, 4, 7, 9, 0, 0, 30, 100, 65, 45}};
    private static final long[][] CHANCES = {
        {472014730000L, 297074520000L, 230910750000L, 1713118710000L},
        {957125000000L, 42875000000L, 0, 2914250000000L},
        {222728320000L, 295081920000L, 482189760000L, 963266880000L},
        {1000000000000L, 0, 0, 3000000000000L},
        {0, 1000000000L, 999000000000L, 1000000000L},
        {66557610000L, 179915840000L, 753526550000L, 379588670000L},
        {725375000000L, 274625000000L, 0, 2450750000000L},
        {544316093750L, 277935312500L, 177748593750L, 1910883593750L}};

    public static void main(String[] args) {
        goes();
        worth();
        parts();
        rest();
        chance();
        play();
        cards();
        playNot();
        likeAndSingle();
        felt();
        rule();
        bets();
        none();
        DUE.end();
    }

    private static HomeGround told() {
        HomeGround x = new HomeGround();
        Due.text(x, 0, NONE, LEAGUE);
        Due.text(x, 1, NONE, LAW);
        Due.text(x, 1, NONE, "known 10;");
        Due.text(x, 2, NONE, PLAN);
        return x;
    }

    /** Promise 10. */
    private static void goes() {
        HomeGround x = told();
        DUE.is("goes", x.goes(0, 0), true);
        DUE.is("no league", x.goes(1, 0), false);
        DUE.is("no plan", x.goes(0, 1), false);
        DUE.is("no league -1", x.goes(-1, 0), false);
        DUE.is("no plan -1", x.goes(0, -1), false);
        DUE.is("no plan 3", x.goes(0, 3), false);
        Due.text(x, 0, NONE, "");
        Due.text(x, 2, NONE, "");
        Due.text(x, 2, NONE, "at 9;");
        DUE.is("an empty plan in an empty league", x.goes(1, 1), true);
        DUE.is("an at without a game", x.goes(1, 2), true);
        DUE.is("a plan in an empty league", x.goes(1, 0), false);
        Due.text(x, 2, 1, "game 3 0;at 3;game 0 3;");
        DUE.is("all that is there", x.goes(0, 1), true);
        Due.text(x, 2, 1, "game 4 0;game 0 3;");
        DUE.is("home is not there", x.goes(0, 1), false);
        Due.text(x, 2, 1, "game 0 4;game 0 3;");
        DUE.is("guest is not there", x.goes(0, 1), false);
        Due.text(x, 2, 1, "at 4;game 0 3;game 0 3;");
        DUE.is("ground is not there", x.goes(0, 1), false);
        Due.text(x, 2, 1, "at 4;at 3;game 0 3;");
        DUE.is("a later at strikes", x.goes(0, 1), true);
        Due.text(x, 0, 0, "ground 1 1 1;side 0 1;");
        DUE.is("in another league now", x.goes(0, 0), false);
    }

    /** Promise 11. */
    private static void worth() {
        HomeGround x = told();
        for (int game = 0; game < 8; game++) {
            for (int part = 0; part < 10; part++) {
                DUE.is("worth of game " + game + " part " + part, x.worth(0, 0, 0, game, part), WORTHS[game][part]);
            }
            DUE.is("part -1", x.worth(0, 0, 0, game, -1), NONE);
            DUE.is("part 10", x.worth(0, 0, 0, game, 10), NONE);
        }
    }

    private static int part(HomeGround x, String law, int game, int part) {
        Due.text(x, 1, 0, law);
        return x.worth(0, 0, 0, game, part);
    }

    /** Each PART at its edges. */
    private static void parts() {
        HomeGround x = told();
        DUE.is("miles at per", part(x, "miles 3 250;", 0, 1), 3);
        DUE.is("miles above per", part(x, "miles 3 251;", 0, 1), 0);
        DUE.is("miles just twice", part(x, "miles 3 125;", 0, 1), 6);
        DUE.is("miles at most", part(x, "miles 1 5;", 0, 1), 50);
        DUE.is("miles at most", part(x, "miles 1 1;", 6, 1), 50);
        DUE.is("miles of nought", part(x, "miles 0 1;", 6, 1), 0);
        DUE.is("sung at per", part(x, "sung 7 100;", 0, 3), 7);
        DUE.is("sung above per", part(x, "sung 7 101;", 0, 3), 0);
        DUE.is("judged at per", part(x, "judged 7 999;", 1, 4), 7);
        DUE.is("judged where strict", part(x, "judged 7 1;", 6, 4), 0);
        DUE.is("sung where empty", part(x, "sung 7 1;", 3, 3), 0);
        DUE.is("height at per", part(x, "height 7 50;", 1, 5), 7);
        DUE.is("height above per", part(x, "height 7 51;", 1, 5), 0);
        DUE.is("height at most", part(x, "height 2 1;", 1, 5), 50);
        DUE.is("height downwards", part(x, "height 50 1;", 0, 5), 0);
        DUE.is("known at most", part(x, "known 50;", 0, 0), 50);
        DUE.is("known on a common ground", part(x, "known 50;", 2, 0), 0);
        DUE.is("known on another ground", part(x, "known 50;", 4, 0), 0);
        DUE.is("p at most", part(x, "base 100;", 3, 8), 100);
        DUE.is("q at least", part(x, "base 0;", 3, 9), 0);
        DUE.is("p at least", part(x, "base 0;", 0, 8), 0);
        DUE.is("q of base alone", part(x, "base 0;known 50;", 0, 9), 5);
        DUE.is("q at most", part(x, "base 100;", 4, 9), 100);
        // the own ground told as another one is the own one all the same
        Due.text(x, 2, 0, "at 0;game 0 1;at 1;game 0 1;at 2;game 0 1;");
        DUE.is("at the own ground", part(x, "known 8;", 0, 0), 8);
        DUE.is("at the guest's ground", part(x, "known 8;", 1, 0), 0);
        DUE.is("at a third ground", part(x, "known 8;", 2, 0), 0);
        DUE.is("miles to a third ground", part(x, "miles 1 100;", 2, 1), 9);
    }

    private static void rest() {
        for (int per = 1; per <= 30; per++) {
            HomeGround x = told();
            Due.text(x, 2, 0, "day 100;game 0 1;day 103;game 2 1;day 110;game 0 1;day 117;game 2 0;game 2 0;");
            String law = "rest 9 " + per + ";";
            // without a game ahead REST is 30, never below PER
            DUE.is("first game by " + per, part(x, law, 0, 2), 0);
            DUE.is("guest 3, home 30 by " + per, part(x, law, 1, 2), per > 3 ? 9 : 0);
            DUE.is("guest 7, home 10 by " + per, part(x, law, 2, 2), per > 7 && per <= 10 ? 9 : 0);
            DUE.is("guest 7, home 14 by " + per, part(x, law, 3, 2), per > 7 && per <= 14 ? 9 : 0);
            DUE.is("both 0 by " + per, part(x, law, 4, 2), 0);
        }
    }

    /** Promise 12. */
    private static void chance() {
        HomeGround x = told();
        for (int game = 0; game < 8; game++) {
            for (int what = 0; what < 4; what++) {
                DUE.is("chance of game " + game + " what " + what, x.chance(0, 0, 0, game, what), CHANCES[game][what]);
            }
            DUE.is("what -1", x.chance(0, 0, 0, game, -1), NONE);
            DUE.is("what 4", x.chance(0, 0, 0, game, 4), NONE);
        }
    }

    /** Promise 13. */
    private static void play() {
        int[][] minusOne = {
            {0, 1, 7, 1, 1, 0, 3, 1, 100, 0}, {1, 0, 7, 3, 1, 2, 4, 1, 999, 1}, {2, 0, 7, 1, 2, 2, 4, 3, 100, 1},
            {3, 2, 7, 3, 0, 2, 2, 3, 0, 0}, {2, 3, 7, 0, 2, 1, 0, 1, 0, 0}, {0, 3, 7, 1, 1, 0, 2, 2, 100, 0},
            {1, 3, 7, 3, 3, 3, 2, 2, 999, 0}, {0, 1, 7, 2, 1, 3, 1, 3, 100, 0}};
        int[][] least = {
            {0, 1, 59, 0, 2, 1, 1, 3, 100, 0}, {1, 0, 59, 3, 1, 3, 1, 2, 999, 1}, {2, 0, 59, 2, 2, 0, 2, 2, 100, 1},
            {3, 2, 59, 3, 0, 0, 3, 3, 0, 0}, {2, 3, 59, 0, 3, 1, 1, 3, 0, 0}, {0, 3, 59, 2, 2, 0, 1, 3, 100, 0},
            {1, 3, 59, 3, 2, 3, 0, 2, 999, 0}, {0, 1, 59, 3, 2, 1, 0, 2, 100, 0}};
        HomeGround x = told();
        x.note(4, 5, 7, 10, 0, 0, 0, 0);
        DUE.is("play", x.play(0, 0, 0, -1, 7), 8);
        DUE.is("play", x.play(0, 0, 0, Integer.MIN_VALUE, 59), 8);
        for (int game = 0; game < 8; game++) {
            for (int what = 0; what < 10; what++) {
                DUE.is("season -1 game " + game + " what " + what, x.noted(1 + game, what), minusOne[game][what]);
                DUE.is("the least seed, game " + game + " what " + what, x.noted(9 + game, what), least[game][what]);
            }
        }
        DUE.is("count", x.count(3), 17);
        DUE.is("the year 0", x.play(0, 0, 0, 5, 0), 8);
        DUE.is("the year 0", x.noted(17, 2), 0);
    }

    /** A guest has one CARD more as soon as JUDGED is above 0. */
    private static void cards() {
        HomeGround x = told();
        Due.text(x, 2, 0, "soft;game 1 0;");
        for (int much = 0; much < 3; much++) {
            Due.text(x, 1, 0, "judged " + much + " 999;");
            x.play(0, 0, 0, 3, 5);
            DUE.is("judged", x.worth(0, 0, 0, 0, 4), much);
            DUE.is("cards of the home side", x.noted(much, 5), x.noted(0, 5));
            DUE.is("cards of the guest", x.noted(much, 6), x.noted(0, 6) + (much > 0 ? 1 : 0));
        }
    }

    private static void playNot() {
        HomeGround x = told();
        DUE.is("year -1", x.play(0, 0, 0, 1, -1), NONE);
        DUE.is("year 60", x.play(0, 0, 0, 1, 60), NONE);
        DUE.is("no league", x.play(1, 0, 0, 1, 1), NONE);
        DUE.is("no law", x.play(0, 2, 0, 1, 1), NONE);
        DUE.is("no plan", x.play(0, 0, 1, 1, 1), NONE);
        DUE.is("nothing noted", x.count(3), 0);
        Due.text(x, 2, NONE, "");
        Due.text(x, 2, NONE, "game 0 4;");
        DUE.is("an empty season", x.play(0, 0, 1, 1, 1), 0);
        DUE.is("a plan that does not go", x.play(0, 0, 2, 1, 1), NONE);
        for (int season = 0; season < 9; season++) {
            x.play(0, 0, 0, season, season);
        }
        DUE.is("72", x.count(3), 72);
        x.note(0, 1, 3, 0, 0, 0, 0, 0);
        DUE.is("there would be 81", x.play(0, 0, 0, 1, 1), NONE);
        DUE.is("73", x.count(3), 73);
        Due.text(x, 2, 0, "game 0 1;game 0 1;game 0 1;game 0 1;game 0 1;game 0 1;game 0 1;");
        DUE.is("there will be 80", x.play(0, 0, 0, 1, 1), 7);
        DUE.is("80", x.count(3), 80);
        DUE.is("an empty season behind 80", x.play(0, 0, 1, 1, 1), 0);
        DUE.is("one behind 80", x.play(0, 0, 0, 1, 1), NONE);
    }

    /** Promises 37 and 38. */
    private static void likeAndSingle() {
        HomeGround x = told();
        int[] singles = {0, 1, 1, 0, 0, 1};
        for (int part = 0; part < 6; part++) {
            DUE.is("like " + part, x.like(0, 0, 0, part), 1 << part);
            DUE.is("single " + part, x.single(0, 0, 0, part), singles[part]);
            DUE.is("like by known alone " + part, x.like(0, 1, 0, part), part == 0 ? 1 : 62);
            DUE.is("single by known alone " + part, x.single(0, 1, 0, part), part == 0 ? 15 : 0);
        }
        Due.text(x, 2, NONE, "");
        Due.text(x, 2, NONE, "game 0 1;game 0 3;");
        DUE.is("like in no games", x.like(0, 0, 1, 3), 63);
        DUE.is("single in no games", x.single(0, 0, 1, 3), 0);
        // KNOWN and SUNG in both, MILES in the first alone
        DUE.is("like, known", x.like(0, 0, 2, 0), 1 + 8);
        DUE.is("like, sung", x.like(0, 0, 2, 3), 1 + 8);
        DUE.is("like, miles", x.like(0, 0, 2, 1), 2);
        DUE.is("like, rest", x.like(0, 0, 2, 2), 4 + 16 + 32);
        DUE.is("single, miles", x.single(0, 0, 2, 1), 1);
        for (int part : new int[] {-1, 6}) {
            DUE.is("like of part " + part, x.like(0, 0, 0, part), NONE);
            DUE.is("single of part " + part, x.single(0, 0, 0, part), NONE);
        }
    }

    /** Promise 39. */
    private static void felt() {
        HomeGround x = told();
        DUE.is("nothing noted", x.felt(0, 1, 0, 0, 7, false), NO_SHARE);
        int[] goals = {22, 31, 31, 30, 3, 23, 33};
        for (int game = 0; game < 7; game++) {
            x.note(6, 7, 8, 90, 0, 0, 0, 0);
            x.note(4, 5, 7, goals[game], 0, 0, 0, 0);
        }
        DUE.is("one too few", x.felt(0, 1, 0, 0, 7, true), NO_SHARE);
        x.note(4, 5, 7, 21, 0, 0, 0, 0);
        // AWAKE in 0, 1, 5, 6, 7 with margins 0, 2, -1, 0, 1; not in 2, 3, 4 with 2, 3, -3
        DUE.share("known", x.felt(0, 1, 0, 0, 7, false), x.felt(0, 1, 0, 0, 7, true), 3 * 2 - 5 * 2, 15);
        DUE.share("rest", x.felt(0, 0, 0, 2, 7, false), x.felt(0, 0, 0, 2, 7, true), 1, 1);
        DUE.share("miles", x.felt(0, 0, 0, 1, 7, false), x.felt(0, 0, 0, 1, 7, true), 1, 1);
        DUE.share("height", x.felt(0, 0, 0, 5, 7, false), x.felt(0, 0, 0, 5, 7, true), -1, 1);
        DUE.is("no such couples", x.felt(0, 0, 0, 0, 7, true), NO_SHARE);
        DUE.is("too few of year 8", x.felt(0, 1, 0, 0, 8, true), NO_SHARE);
        x.note(6, 7, 8, 99, 0, 0, 0, 0);
        DUE.share("all alike", x.felt(0, 1, 0, 0, 8, false), x.felt(0, 1, 0, 0, 8, true), -9, 5);
        x.note(4, 5, 7, 90, 0, 0, 0, 0);
        DUE.is("a further one does not count", x.felt(0, 1, 0, 0, 7, false), -4);
        Due.text(x, 2, 0, "game 0 1;game 0 2;");
        DUE.share("in least terms", x.felt(0, 1, 0, 0, 7, false), x.felt(0, 1, 0, 0, 7, true), -2, 1);
        for (int part : new int[] {-1, 6}) {
            DUE.is("part " + part, x.felt(0, 1, 0, part, 7, false), NO_SHARE);
        }
        DUE.is("no league", x.felt(1, 1, 0, 0, 7, false), NO_SHARE);
        DUE.is("no law", x.felt(0, 2, 0, 0, 7, false), NO_SHARE);
        DUE.is("no plan", x.felt(0, 1, 1, 0, 7, false), NO_SHARE);
        DUE.is("no year", x.felt(0, 1, 0, 0, 60, false), NO_SHARE);
        DUE.is("no year", x.felt(0, 1, 0, 0, -1, false), NO_SHARE);
    }

    /** Promises 40 and 41. */
    private static void rule() {
        HomeGround x = told();
        DUE.is("rule", x.rule(0, 0, 1, 0), 4857495353750L);
        DUE.is("rule the other way", x.rule(0, 1, 0, 0), -4857495353750L);
        DUE.is("rule by itself", x.rule(0, 1, 1, 0), 0);
        DUE.is("no other law", x.rule(0, 0, 2, 0), LEAST);
        long[] less = {-720892437500L, -433017535000L, -371460043750L, -2071596870000L, -244078400000L, -54000000L};
        for (int part = 0; part < 6; part++) {
            DUE.is("less " + part, x.less(0, 0, 0, part), less[part]);
        }
        DUE.is("less -1", x.less(0, 0, 0, -1), LEAST);
        DUE.is("less 6", x.less(0, 0, 0, 6), LEAST);
        Due.text(x, 2, 0, "");
        DUE.is("rule of no games", x.rule(0, 0, 1, 0), 0);
        DUE.is("less of no games", x.less(0, 0, 0, 0), 0);
    }

    /** Promises 42 to 44. */
    private static void bets() {
        HomeGround x = told();
        int[] fair = {212, 105, 449, 101, NONE, NONE, 138, 184};
        for (int game = 0; game < 8; game++) {
            long chance = CHANCES[game][0];
            DUE.is("fair of " + game, x.fair(0, 0, 0, game), fair[game]);
            for (int price : new int[] {101, 138, 212, 999}) {
                DUE.is("bet on " + game + " at " + price, x.bet(0, 0, 0, game, price), chance * price - 100000000000000L);
            }
            DUE.is("bet at 100", x.bet(0, 0, 0, game, 100), LEAST);
            DUE.is("bet at 1000", x.bet(0, 0, 0, game, 1000), LEAST);
        }
        DUE.is("best", x.best(0, 0, 0, 200), 3);
        DUE.is("best at 100", x.best(0, 0, 0, 100), NONE);
        DUE.is("best at 1000", x.best(0, 0, 0, 1000), NONE);
        // chances of 957125 and 472014 of a million
        Due.text(x, 2, 0, "game 0 1;soft;game 1 0;game 1 0;");
        DUE.is("best, of several the least", x.best(0, 0, 0, 105), 1);
        DUE.is("best: none above 0", x.best(0, 0, 0, 104), NONE);
        // p 100, q 0
        Due.text(x, 0, 0, "ground 0 0 0;side 0 0;side 0 50;side 0 25;");
        Due.text(x, 1, 0, "base 50;");
        Due.text(x, 2, 0, "game 1 0;");
        DUE.is("sure", x.chance(0, 0, 0, 0, 0), 1000000000000L);
        DUE.is("sure at 101", x.bet(0, 0, 0, 0, 101), 1000000000000L);
        DUE.is("sure is fair", x.fair(0, 0, 0, 0), 101);
        DUE.is("sure is best", x.best(0, 0, 0, 101), 0);
        // p 20, q 0: 1 less 0.8 to the third
        Due.text(x, 1, 0, "base 0;known 20;");
        Due.text(x, 0, 0, "ground 0 0 0;ground 0 0 0;side 0 0;side 1 0;");
        Due.text(x, 2, 0, "game 0 1;");
        DUE.is("chance", x.chance(0, 0, 0, 0, 0), 488000000000L);
        DUE.is("fair", x.fair(0, 0, 0, 0), 205);
        // p 11, q 34: 0.10007 would be fair at 1000 first
        Due.text(x, 0, 0, "ground 0 0 0;ground 0 0 0;side 0 0;side 1 12;");
        Due.text(x, 1, 0, "base 22;known 1;");
        DUE.is("chance", x.chance(0, 0, 0, 0, 0), 100070649360L);
        DUE.is("fair at 1000", x.fair(0, 0, 0, 0), NONE);
        DUE.is("bet at 999", x.bet(0, 0, 0, 0, 999), 100070649360L * 999 - 100000000000000L);
        Due.text(x, 0, 0, "ground 0 0 0;ground 0 0 0;side 0 0;side 1 0;");
        // p 50, q 50: half of what is left by 20 / 64
        Due.text(x, 1, 0, "base 50;");
        DUE.is("even", x.chance(0, 0, 0, 0, 0), 343750000000L);
        DUE.is("fair", x.fair(0, 0, 0, 0), 291);
        // p 100, q 100
        Due.text(x, 1, 0, "base 100;");
        DUE.is("none wins", x.chance(0, 0, 0, 0, 0), 0);
        DUE.is("none is fair", x.fair(0, 0, 0, 0), NONE);
        DUE.is("none is best", x.best(0, 0, 0, 999), NONE);
    }

    private static void none(HomeGround x, int league, int law, int plan, int game) {
        String call = league + " " + law + " " + plan + " " + game;
        for (int what = 0; what < 10; what++) {
            DUE.is("worth " + call, x.worth(league, law, plan, game, what), NONE);
        }
        for (int what = 0; what < 4; what++) {
            DUE.is("chance " + call, x.chance(league, law, plan, game, what), NONE);
        }
        DUE.is("bet " + call, x.bet(league, law, plan, game, 200), LEAST);
        DUE.is("fair " + call, x.fair(league, law, plan, game), NONE);
        if (game == 0) {
            DUE.is("play " + call, x.play(league, law, plan, 1, 1), NONE);
            DUE.is("like " + call, x.like(league, law, plan, 0), NONE);
            DUE.is("single " + call, x.single(league, law, plan, 0), NONE);
            DUE.is("felt " + call, x.felt(league, law, plan, 0, 7, false), NO_SHARE);
            DUE.is("rule " + call, x.rule(league, law, 1, plan), LEAST);
            DUE.is("rule " + call, x.rule(league, 1, law, plan), LEAST);
            DUE.is("less " + call, x.less(league, law, plan, 0), LEAST);
            DUE.is("best " + call, x.best(league, law, plan, 999), NONE);
        }
    }

    private static HomeGround toldAndNoted() {
        HomeGround x = told();
        for (int i = 0; i < 8; i++) {
            x.note(4, 5, 7, 10, 0, 0, 0, 0);
        }
        return x;
    }

    /** What is not there, and a PLAN that does not GO. */
    private static void none() {
        for (int k : new int[] {-1, 2, 3, Integer.MAX_VALUE, Integer.MIN_VALUE}) {
            HomeGround y = toldAndNoted();
            none(y, k, 0, 0, 0);
            none(y, 0, k, 0, 0);
            none(y, 0, 0, k, 0);
            DUE.is("nothing more is noted", y.count(3), 8);
        }
        HomeGround x = toldAndNoted();
        none(x, 1, 0, 0, 0);
        none(x, 0, 0, 1, 0);
        for (int game : new int[] {-1, 8, 40, Integer.MAX_VALUE, Integer.MIN_VALUE}) {
            none(x, 0, 0, 0, game);
        }
        Due.text(x, 2, 0, "game 0 1;at 4;game 0 1;");
        none(x, 0, 0, 0, 0);
        Due.text(x, 2, 0, "game 0 1;game 0 4;");
        none(x, 0, 0, 0, 0);
        DUE.is("nothing more is noted", x.count(3), 8);
    }
}
