/** "Terms" 3, what TABLE is, and promises 14 to 31: what is NOTED and what is read out of it, films, bets. */
final class NotedBounds extends Bounds {
    private NotedBounds() { }

    static void all() {
        numbers();
        note();
        notedAsked();
        years();
        margin();
        sum();
        tableOrder();
        table();
        points();
        alone();
        both();
        sixSides();
        oneRow();
        off();
        people();
        slope();
        odds();
        oddsOfSixty();
        carded();
        longer();
        fresh();
        freshRefused();
        films();
        filmsNow();
        looser();
        had();
        fixed();
        fixedRefused();
    }

    // ---- NOTED ----

    private static final int[] LEAST = {0, 1, 0, 0, 0, 0, 0, 0};
    private static final int[] MOST = {7, 6, 59, 99, 99, 19, 999, 7};

    /** A number of note() at its bounds, and beyond them. */
    private static void bound(int which) {
        HomeGround x = new HomeGround();
        is("least", note(x, LEAST), 0);
        is("most", note(x, MOST), 1);
        for (int number : new int[] {LEAST[which] - 1 - (which == 1 ? 1 : 0), MOST[which] + 1 + (which == 1 ? 1 : 0), MIN, MAX}) {
            for (int[] other : new int[][] {LEAST, MOST}) {
                int[] game = other.clone();
                game[which] = number;
                is("number " + which + " " + number, note(x, game), NONE);
            }
        }
        is("nothing of it is noted", x.count(NOTES), 2);
        is("a good one again", note(x, LEAST), 2);
    }

    private static void numbers() {
        says(TERMS, "NOTED, at most 80, from 0 on");
        HomeGround x = new HomeGround();
        for (int k = 0; k < 80; k++) {
            is("note", x.note(0, 1, k % 60, 0, 0, 0, 0, 0), k);
        }
        is("an 81st", x.note(0, 1, 5, 0, 0, 0, 0, 0), NONE);
        is("games", x.sum(0, 59, 0), 80);
        is("the last", x.noted(79, 2), 19);

        says(TERMS, "home, guest (SIDES 0 .. 7, two)");
        bound(0);
        bound(1);
        for (int side = 0; side < 8; side++) {
            is("a side to itself", new HomeGround().note(side, side, 0, 0, 0, 0, 0, 0), NONE);
        }
        HomeGround y = noted(n(7, 0), n(0, 7));
        is("home 7", y.noted(0, 0), 7);
        is("guest 0", y.noted(0, 1), 0);
        is("home 0", y.noted(1, 0), 0);
        is("guest 7", y.noted(1, 1), 7);

        says(TERMS, "YEAR, 0 .. 59");
        bound(2);
        says(TERMS, "goals of both, 0 .. 9");
        bound(3);
        HomeGround z = noted(n(0, 1, 0, 9, 90), n(0, 1, 0, 90, 9), n(0, 1, 0, 0, 99), n(0, 1, 0, 99, 0));
        int[][] want = {{0, 9, 9, 0}, {9, 0, 0, 9}, {0, 0, 9, 9}, {9, 9, 0, 0}};
        for (int k = 0; k < 4; k++) {
            for (int what = 3; what < 7; what++) {
                is("game " + k + " noted " + what, z.noted(k, what), want[k][what - 3]);
            }
        }
        is("ten goals", z.note(0, 1, 0, 100, 0, 0, 0, 0), NONE);
        says(TERMS, "CARDS of both, 0 .. 9");
        bound(4);
        is("ten cards", z.note(0, 1, 0, 0, 100, 0, 0, 0), NONE);
        says(TERMS, "MINUTES, 0 .. 19");
        bound(5);
        says(TERMS, "LOUD, 0 .. 999");
        bound(6);
        says(TERMS, "JUDGE, 0 .. 7");
        bound(7);
    }

    private static void note() {
        says(14, "One more is NOTED, goals and CARDS as 10 * home's + guest's: its number");
        HomeGround x = new HomeGround();
        is("the first", x.note(1, 2, 3, 45, 67, 8, 9, 5), 0);
        int[] want = {1, 2, 3, 4, 5, 6, 7, 8, 9, 5};
        for (int what = 0; what < 10; what++) {
            is("noted " + what, x.noted(0, what), want[what]);
        }
        is("the second", x.note(2, 1, 3, 45, 67, 8, 9, 5), 1);
        is("count", x.count(NOTES), 2);

        says(14, "NONE: there are 80, or other numbers");
        is("a refused one", x.note(1, 1, 3, 45, 67, 8, 9, 5), NONE);
        is("count", x.count(NOTES), 2);
        is("no third", x.noted(2, 0), NONE);
        for (int k = 2; k < 80; k++) {
            x.note(3, 4, 5, 10, 0, 0, 0, 0);
        }
        is("80", x.count(NOTES), 80);
        is("an 81st", x.note(1, 2, 3, 45, 67, 8, 9, 5), NONE);
        is("80 still", x.count(NOTES), 80);
        is("no 81st", x.noted(80, 0), NONE);
        is("the last stays", x.noted(79, 0), 3);
        is("the first stays", x.noted(0, 0), 1);
    }

    private static void notedAsked() {
        says(15, "what 0: home, 1: guest, 2: YEAR, 3, 4: goals, 5, 6: CARDS, 7: MINUTES, 8: LOUD, 9: JUDGE");
        HomeGround x = noted(n(7, 6, 59, 98, 76, 19, 999, 7), n(0, 1, 0, 0, 0, 0, 0, 0));
        int[] want = {7, 6, 59, 9, 8, 7, 6, 19, 999, 7};
        for (int what = 0; what < 10; what++) {
            is("noted " + what, x.noted(0, what), want[what]);
            is("noted " + what, x.noted(1, what), what == 1 ? 1 : 0);
        }

        says(15, "NONE: there is none such, or for another what");
        for (int what : new int[] {-1, 10, 11, MIN, MAX}) {
            is("what " + what, x.noted(0, what), NONE);
            is("what " + what, x.noted(1, what), NONE);
        }
        // ten times 429496730 comes round to 4
        for (int k : new int[] {-1, 2, 79, 80, 429496730, -429496729, MIN, MAX}) {
            for (int what : new int[] {0, 6, 9, 10}) {
                is("number " + k, x.noted(k, what), NONE);
            }
        }
        is("of none", new HomeGround().noted(0, 0), NONE);
    }

    // ---- some YEARS ----

    private static void years() {
        says(TERMS, "Of those of some YEARS (from, to)");
        HomeGround x = noted(n(0, 1, 0, 10), n(0, 1, 1, 10), n(0, 1, 30, 10), n(0, 1, 58, 10), n(0, 1, 59, 10));
        int[][] want = {{0, 59, 5}, {0, 0, 1}, {1, 1, 1}, {0, 1, 2}, {1, 58, 3}, {2, 57, 1}, {2, 29, 0}, {30, 30, 1},
            {31, 57, 0}, {58, 59, 2}, {59, 59, 1}, {59, 58, 0}, {59, 0, 0}, {30, 29, 0}, {-1, 60, 5}, {-5, -1, 0},
            {60, 99, 0}, {-1, 0, 1}, {59, 60, 1}, {MIN, MAX, 5}, {MAX, MIN, 0}, {MIN, 29, 2}, {30, MAX, 3}};
        for (int[] w : want) {
            String call = w[0] + " to " + w[1] + " ";
            is(call + "games", x.sum(w[0], w[1], 0), w[2]);
            is(call + "alone", x.alone(w[0], w[1], true), w[2] == 0 ? NO_SHARE : 1);
            is(call + "points", x.points(w[0], w[1], 0), 3 * w[2]);
            is(call + "had", x.had(w[0], w[1], 300), 200 * w[2]);
            is(call + "fixed", x.fixed(w[0], w[1], 300, 0), w[2]);
            is(call + "table", x.table(w[0], w[1], 1), w[2] == 0 ? NONE : 1);
            is(call + "carded", x.carded(w[0], w[1], 0), w[2] == 0 ? NO_SHARE : 0);
            is(call + "odds", x.odds(w[0], w[1], 0, true), 1);
        }
    }

    private static void margin() {
        says(TERMS, "MARGIN: goals of home less those of the guest");
        int[][] want = {{90, 9}, {9, -9}, {99, 0}, {0, 0}, {10, 1}, {1, -1}, {54, 1}, {45, -1}};
        for (int[] w : want) {
            HomeGround x = noted(n(0, 1, 5, w[0]));
            is("goals " + w[0], x.alone(5, 5, false), w[1]);
            is("goals " + w[0], x.alone(5, 5, true), 1);
        }
    }

    private static void sum() {
        says(16, "what 0: GAMES, 1: home wins, 2: as many, 3: guest wins, 4, 5: goals of homes, of guests");
        HomeGround x = noted(n(0, 1, 5, 10), n(1, 0, 5, 11), n(0, 1, 5, 12), n(0, 1, 5, 21), n(0, 1, 5, 90), n(1, 0, 6, 9));
        int[] want = {5, 3, 1, 1, 14, 4};
        for (int what = 0; what < 6; what++) {
            is("what " + what, x.sum(5, 5, what), want[what]);
            is("of none, what " + what, x.sum(7, 59, what), 0);
        }
        is("of all", x.sum(0, 59, 5), 13);

        says(16, "NONE for another what");
        for (int what : new int[] {-1, 6, 7, MIN, MAX}) {
            is("what " + what, x.sum(0, 59, what), NONE);
            is("of none, what " + what, x.sum(7, 59, what), NONE);
        }
    }

    // ---- TABLE ----

    private static void places(HomeGround x, int year, int... sides) {
        for (int place = 0; place < sides.length; place++) {
            is("year " + year + " place " + place, x.table(year, year, place), sides[place]);
        }
        is("year " + year + " no place " + sides.length, x.table(year, year, sides.length), NONE);
    }

    private static void tableOrder() {
        says(TERMS, "points (3 a win, 1 if both have as many), then goals less goals of others, then goals, then the least SIDE first");
        HomeGround x = noted(
            // 1: points before all else: side 7 wins by one, 2 and 3 as many with many goals
            n(2, 3, 1, 99), n(7, 0, 1, 10),
            // 2: one win is more than two as many: 5 has 3, 4 has 2
            n(4, 0, 2, 99), n(4, 1, 2, 99), n(5, 6, 2, 10),
            // 3: goals less goals of others before goals: 6 by two with two goals, 1 by one with nine
            n(1, 0, 3, 98), n(6, 7, 3, 20),
            // 4: then goals: 6 has two, 1 has one, both by one
            n(1, 0, 4, 10), n(6, 7, 4, 21),
            // 5: then the least side first, winners and losers
            n(6, 7, 5, 10), n(3, 4, 5, 10),
            // 7: more points with fewer goals less those of others: 2 has 6 by -7, 3 has 3 by 9, 4 has 0
            n(2, 4, 7, 10), n(2, 4, 7, 10), n(3, 2, 7, 90),
            // 6: goals as guest and against count alike
            n(0, 5, 6, 3), n(1, 6, 6, 2), n(5, 6, 6, 0), n(1, 0, 6, 0));
        places(x, 1, 7, 2, 3, 0);
        places(x, 2, 5, 4, 0, 1, 6);
        places(x, 3, 6, 1, 0, 7);
        places(x, 4, 6, 1, 7, 0);
        places(x, 5, 3, 6, 4, 7);
        // 5: 3 + 1 points by 3, 6: 4 by 2, 0: 1 by -3, 1: 1 by -2
        places(x, 6, 5, 6, 1, 0);
        places(x, 7, 2, 3, 4);
        is("points of a win", x.points(4, 4, 6), 3);
        is("points of as many", x.points(1, 1, 2), 1);
        is("points of the other one", x.points(1, 1, 3), 1);
        is("points of a lost one", x.points(4, 4, 7), 0);
        is("points of two years", x.points(4, 5, 6), 6);
    }

    private static void table() {
        says(17, "the SIDE at a place, from 0 on (SIDES that played alone)");
        HomeGround x = noted(n(7, 6, 5, 10), n(0, 1, 6, 10));
        places(x, 5, 7, 6);
        places(x, 6, 0, 1);
        places(x, 7);
        HomeGround y = new HomeGround();
        for (int side = 0; side < 8; side += 2) {
            y.note(side, side + 1, 5, 0, 0, 0, 0, 0);
        }
        places(y, 5, 0, 1, 2, 3, 4, 5, 6, 7);

        says(17, "NONE: there is none such");
        for (int place : new int[] {-1, 2, 3, 8, MIN, MAX}) {
            is("place " + place, x.table(5, 5, place), NONE);
        }
        for (int place : new int[] {-1, 8, 9, MIN, MAX}) {
            is("place " + place, y.table(5, 5, place), NONE);
        }
        is("of none", x.table(7, 59, 0), NONE);
        is("of a new object", new HomeGround().table(0, 59, 0), NONE);
    }

    private static void points() {
        says(18, "Points of a SIDE in some YEARS");
        HomeGround x = noted(n(0, 7, 5, 10), n(0, 7, 5, 11), n(0, 7, 6, 1));
        is("at home", x.points(5, 5, 0), 4);
        is("as guest", x.points(5, 5, 7), 1);
        is("as guest, all", x.points(5, 6, 7), 4);
        // each call counts anew
        is("at home again", x.points(5, 5, 0), 4);
        is("one that did not play", x.points(5, 5, 3), 0);
        is("of no games", x.points(7, 59, 0), 0);

        says(18, "NONE: it is not 0 .. 7");
        for (int side : new int[] {-1, 8, 9, MIN, MAX}) {
            is("side " + side, x.points(5, 5, side), NONE);
            is("of no games, side " + side, x.points(7, 59, side), NONE);
        }
        for (int side = 0; side < 8; side++) {
            is("of a new object, side " + side, new HomeGround().points(0, 59, side), 0);
        }
    }

    // ---- ALONE, BOTH, OFF ----

    private static void alone(HomeGround x, int from, int to, int over, int under) {
        share("alone " + from + " to " + to, x.alone(from, to, false), x.alone(from, to, true), over, under);
    }

    private static void alone() {
        says(TERMS, "ALONE: MARGINS together by how many");
        HomeGround x = noted(n(0, 1, 1, 30), n(0, 1, 2, 11), n(0, 1, 3, 1), n(0, 1, 4, 2), n(0, 1, 5, 9), n(0, 1, 6, 90));
        alone(x, 1, 2, 3, 2);
        alone(x, 3, 3, -1, 1);

        says(19, "ALONE, above, or (under) below the line, in least terms (below it above 0)");
        alone(x, 2, 2, 0, 1);
        alone(x, 5, 6, 0, 1);
        alone(x, 1, 3, 2, 3);
        alone(x, 1, 4, 0, 1);
        alone(x, 3, 4, -3, 2);
        alone(x, 2, 4, -1, 1);
        alone(x, 2, 5, -3, 1);
        alone(x, 1, 6, 0, 1);
        HomeGround y = new HomeGround();
        HomeGround z = new HomeGround();
        for (int k = 0; k < 80; k++) {
            y.note(0, 1, 0, 90, 0, 0, 0, 0);
            z.note(0, 1, 0, k == 0 ? 8 : 9, 0, 0, 0, 0);
        }
        alone(y, 0, 0, 9, 1);
        alone(z, 0, 0, -719, 80);

        says(19, "-1000000: there are none");
        alone(x, 7, 59, NO_SHARE, NO_SHARE);
        alone(x, 0, 0, NO_SHARE, NO_SHARE);
        alone(x, 6, 5, NO_SHARE, NO_SHARE);
        alone(new HomeGround(), 0, 59, NO_SHARE, NO_SHARE);
    }

    private static void both(HomeGround x, int from, int to, int side, long over, long under) {
        share("both " + from + " to " + to + " side " + side, x.both(from, to, side, false), x.both(from, to, side, true),
            over, under);
    }

    private static void both() {
        says(TERMS, "BOTH: H and STRENGTHS (that of the least SIDE that played is 0)");
        // side 5 and 2, there and back: H is half of both margins together, the strength half of what they differ
        HomeGround x = noted(n(5, 2, 1, 50), n(2, 5, 1, 2), n(5, 2, 2, 10), n(2, 5, 2, 1));
        both(x, 1, 1, NONE, 3, 2);
        both(x, 1, 1, 2, 0, 1);
        both(x, 1, 1, 5, 7, 2);

        says(20, "BOTH: H (side NONE), or a STRENGTH, likewise");
        both(x, 2, 2, NONE, 0, 1);
        both(x, 2, 2, 5, 1, 1);
        both(x, 1, 2, NONE, 3, 4);
        both(x, 1, 2, 5, 9, 4);
        // a round of three, each at home once: H is a third, the strengths fit
        HomeGround y = noted(n(0, 1, 1, 20), n(1, 2, 1, 20), n(2, 0, 1, 11), n(2, 0, 2, 31));
        both(y, 1, 1, NONE, 4, 3);
        both(y, 1, 1, 0, 0, 1);
        both(y, 1, 1, 1, -2, 3);
        both(y, 1, 1, 2, -4, 3);

        says(20, "-1000000000000000: there is none, or the SIDE did not play");
        for (int side : new int[] {-2, 0, 1, 3, 4, 6, 7, 8, 9, MIN, MAX}) {
            both(x, 1, 1, side, NO_LONG, NO_LONG);
        }
        for (int side : new int[] {NONE, 2, 5, 0}) {
            both(x, 3, 59, side, NO_LONG, NO_LONG);
            both(x, 2, 1, side, NO_LONG, NO_LONG);
            both(new HomeGround(), 0, 59, side, NO_LONG, NO_LONG);
        }
        for (int side : new int[] {NONE, 0, 2}) {
            both(y, 2, 2, side, NO_LONG, NO_LONG);
        }
    }

    private static void sixSides() {
        says(TERMS, "if at most 6 SIDES played and there is just one such row");
        // a chain of sides, there and back, with the same margins: of as many sides as years
        for (int sides = 2; sides <= 8; sides++) {
            HomeGround x = new HomeGround();
            for (int side = 1; side < sides; side++) {
                x.note(side, side - 1, 1, 30, 0, 0, 0, 0);
                x.note(side - 1, side, 1, 1, 0, 0, 0, 0);
            }
            boolean few = sides <= 6;
            both(x, 1, 1, NONE, few ? 1 : NO_LONG, few ? 1 : NO_LONG);
            for (int side = 0; side < sides; side++) {
                both(x, 1, 1, side, few ? 2 * side : NO_LONG, few ? 1 : NO_LONG);
            }
            both(x, 1, 1, sides, NO_LONG, NO_LONG);
            share("off of " + sides, x.off(1, 1, false), x.off(1, 1, true), few ? 0 : NO_LONG, few ? 1 : NO_LONG);
        }
        // six of seven sides: of some years
        HomeGround x = noted(n(7, 6, 1, 10), n(6, 7, 1, 10), n(5, 4, 2, 10), n(4, 5, 2, 10), n(6, 5, 2, 10), n(3, 2, 3, 10),
            n(4, 3, 3, 10), n(1, 7, 4, 10));
        both(x, 1, 3, NONE, 1, 1);
        both(x, 1, 4, NONE, NO_LONG, NO_LONG);
        both(x, 4, 4, NONE, NO_LONG, NO_LONG);
    }

    private static void oneRow() {
        says(TERMS, "for which the sum of (MARGIN - H - STRENGTH of home + STRENGTH of the guest) squared is least, as fractions");
        // one game, or one couple one way alone: H and the strength can't be told from one another
        HomeGround x = noted(n(0, 1, 1, 20), n(0, 1, 2, 10), n(1, 0, 3, 20), n(2, 3, 4, 20), n(3, 2, 4, 10), n(1, 2, 5, 0));
        both(x, 1, 1, NONE, NO_LONG, NO_LONG);
        both(x, 1, 2, NONE, NO_LONG, NO_LONG);
        both(x, 1, 2, 0, NO_LONG, NO_LONG);
        both(x, 2, 3, NONE, 3, 2);
        // two couples that never met one another: no row alone; a game between them makes it so
        both(x, 1, 4, NONE, NO_LONG, NO_LONG);
        both(x, 1, 4, 0, NO_LONG, NO_LONG);
        both(x, 1, 4, 3, NO_LONG, NO_LONG);
        is("all", x.both(1, 5, NONE, true) > 0, true);
        // homes and guests apart: none; with one game the other way round: just one
        HomeGround y = noted(n(0, 2, 1, 10), n(0, 3, 1, 20), n(1, 2, 1, 30), n(1, 3, 1, 40), n(2, 0, 2, 30));
        both(y, 1, 1, NONE, NO_LONG, NO_LONG);
        both(y, 1, 2, NONE, 2, 1);
        both(y, 1, 2, 0, 0, 1);
        both(y, 1, 2, 1, 2, 1);
        both(y, 1, 2, 2, 1, 1);
        both(y, 1, 2, 3, 0, 1);
        // the first game is the only one of a side: it counts, and so it does behind other questions
        HomeGround leaf = noted(n(3, 0, 1, 50), n(0, 1, 1, 20), n(1, 0, 1, 0), n(5, 6, 2, 10), n(6, 7, 2, 10));
        both(leaf, 0, 59, NONE, NO_LONG, NO_LONG);
        both(leaf, 1, 1, 3, 4, 1);
        both(leaf, 1, 1, NONE, 1, 1);
        both(leaf, 1, 1, 5, NO_LONG, NO_LONG);
        both(leaf, 1, 1, 1, -1, 1);
        // least squares where no row fits: margins 2, 1, 3 one way, 0 back: H - s = 2, H + s = 0
        HomeGround z = noted(n(0, 1, 1, 20), n(0, 1, 1, 10), n(0, 1, 1, 30), n(1, 0, 1, 0));
        both(z, 1, 1, NONE, 1, 1);
        both(z, 1, 1, 1, -1, 1);
    }

    private static void off() {
        says(TERMS, "OFF: ALONE less H");
        // margins 2, 1, 3 one way, 0 back: 6 / 4 less 1
        HomeGround x = noted(n(0, 1, 1, 20), n(0, 1, 1, 10), n(0, 1, 1, 30), n(1, 0, 1, 0), n(1, 0, 2, 30), n(0, 1, 3, 9));
        share("off", x.off(1, 1, false), x.off(1, 1, true), 1, 2);

        says(21, "OFF, likewise");
        // 9 / 5 less H of 2 and 3 / 2: 7 / 4
        share("off 1 to 2", x.off(1, 2, false), x.off(1, 2, true), 1, 20);
        // 0 / 6: one way -3 / 4, back 3 / 2: H 3 / 8
        share("off 1 to 3", x.off(1, 3, false), x.off(1, 3, true), -3, 8);
        share("off 2 to 3", x.off(2, 3, false), x.off(2, 3, true), 0, 1);

        says(21, "-1000000000000000: there is no H");
        for (int[] years : new int[][] {{0, 0}, {2, 2}, {3, 3}, {4, 59}, {2, 1}}) {
            share("off " + years[0] + " to " + years[1], x.off(years[0], years[1], false), x.off(years[0], years[1], true),
                NO_LONG, NO_LONG);
        }
        share("of none", new HomeGround().off(0, 59, false), new HomeGround().off(0, 59, true), NO_LONG, NO_LONG);
    }

    // ---- PEOPLE, SLOPE, ODDS ----

    private static void people(HomeGround x, int from, int to, int l, int over, int under) {
        share("people " + from + " to " + to + " by " + l, x.people(from, to, l, false), x.people(from, to, l, true), over, under);
    }

    private static void people() {
        says(TERMS, "PEOPLE: MARGINS together by how many, of GAMES with LOUD at least l, less that of the others");
        HomeGround x = noted(n(0, 1, 1, 30, 0, 0, 500), n(0, 1, 1, 10, 0, 0, 499), n(0, 1, 1, 1, 0, 0, 501), n(0, 1, 2, 50, 0, 0, 0),
            n(0, 1, 2, 4, 0, 0, 999));
        // at least 500: 3 and -1; the other one: 1
        people(x, 1, 1, 500, 0, 1);
        people(x, 1, 1, 501, -3, 1);
        // all three are as LOUD as 499
        people(x, 1, 1, 499, NO_SHARE, NO_SHARE);
        // 3, 1, -1 and -4 less 5; -4 less 8 / 4
        people(x, 0, 59, 1, -21, 4);
        people(x, 0, 59, 999, -6, 1);

        says(22, "PEOPLE by l, 0 .. 1000, likewise");
        people(x, 2, 2, 1, -9, 1);
        people(x, 2, 2, 999, -9, 1);
        people(x, 1, 2, 502, -6, 1);

        says(22, "-1000000: one of both has none, or another number");
        people(x, 2, 2, 0, NO_SHARE, NO_SHARE);
        people(x, 2, 2, 1000, NO_SHARE, NO_SHARE);
        people(x, 1, 1, 502, NO_SHARE, NO_SHARE);
        for (int l : new int[] {-1, 1001, MIN, MAX}) {
            people(x, 0, 59, l, NO_SHARE, NO_SHARE);
        }
        people(x, 3, 59, 500, NO_SHARE, NO_SHARE);
        people(new HomeGround(), 0, 59, 500, NO_SHARE, NO_SHARE);
    }

    private static void slope(HomeGround x, int from, int to, int over, int under) {
        share("slope " + from + " to " + to, x.slope(from, to, false), x.slope(from, to, true), over, under);
    }

    private static void slope() {
        says(TERMS, "SLOPE: of the line v + w * YEAR through MARGINS that has the least squares: w");
        HomeGround x = noted(n(0, 1, 0, 10), n(0, 1, 1, 30), n(0, 1, 2, 20), n(0, 1, 59, 9), n(0, 1, 59, 90));
        slope(x, 0, 1, 2, 1);
        slope(x, 1, 2, -1, 1);
        // margins 1, 3, 2 of 0, 1, 2
        slope(x, 0, 2, 1, 2);

        says(23, "SLOPE, likewise");
        // 2 to the mean 0 of the last year, 57 years on
        slope(x, 2, 59, -2, 57);
        HomeGround y = noted(n(0, 1, 0, 90), n(0, 1, 59, 9), n(0, 1, 20, 11), n(0, 1, 30, 22));
        // margins 9, -9, 0, 0: 4 * -531 by 4 * 4781 - 109 * 109
        slope(y, 0, 59, -2124, 7243);
        slope(y, 20, 30, 0, 1);
        HomeGround z = noted(n(0, 1, 0, 9), n(0, 1, 59, 90));
        slope(z, 0, 59, 18, 59);

        says(23, "-1000000: there is no line but one of all (all of one YEAR, or none)");
        slope(x, 59, 59, NO_SHARE, NO_SHARE);
        slope(x, 3, 59, NO_SHARE, NO_SHARE);
        slope(x, 0, 0, NO_SHARE, NO_SHARE);
        slope(x, 3, 58, NO_SHARE, NO_SHARE);
        slope(x, 1, 0, NO_SHARE, NO_SHARE);
        slope(new HomeGround(), 0, 59, NO_SHARE, NO_SHARE);
    }

    private static void odds(HomeGround x, int from, int to, int l, long want, long all) {
        is("odds " + from + " to " + to + " by " + l, x.odds(from, to, l, false), want);
        is("all ways " + from + " to " + to + " by " + l, x.odds(from, to, l, true), all);
    }

    private static void odds() {
        says(TERMS, "in how many of all ways to choose m of n GAMES there are at least a of the r");
        // of four games 0 and 1 are won; LOUD are 0 alone, 0 and 2, all, none
        HomeGround x = noted(n(0, 1, 1, 10, 0, 0, 900), n(0, 1, 1, 10, 0, 0, 100), n(0, 1, 1, 11, 0, 0, 800), n(0, 1, 1, 1, 0, 0, 0));
        odds(x, 1, 1, 900, 2, 4);
        odds(x, 1, 1, 800, 5, 6);
        odds(x, 1, 1, 100, 2, 4);
        odds(x, 1, 1, 0, 1, 1);
        odds(x, 1, 1, 901, 1, 1);

        says(24, "ODDS by l, 0 .. 1000, if at most 60 are of some YEARS, or (all) all ways");
        odds(x, 1, 1, 1000, 1, 1);
        odds(x, 1, 1, 801, 2, 4);
        odds(x, 1, 1, 101, 5, 6);
        odds(x, 1, 1, 1, 2, 4);
        odds(x, 2, 59, 500, 1, 1);
        odds(x, 2, 1, 500, 1, 1);

        says(24, "NONE: more, or another number");
        for (int l : new int[] {-1, 1001, MIN, MAX}) {
            odds(x, 1, 1, l, NONE, NONE);
            odds(x, 2, 59, l, NONE, NONE);
        }
    }

    private static void oddsOfSixty() {
        HomeGround x = new HomeGround();
        for (int k = 0; k < 80; k++) {
            x.note(0, 1, k < 59 ? 1 : k == 59 ? 2 : k == 60 ? 3 : 4, k % 2 == 0 ? 10 : 1, 0, 0, k % 2 == 0 ? 500 : 0, 0);
        }
        odds(x, 2, 2, 500, 1, 1);
        // 59 with 30 wins, all loud: one way alone; 60 likewise
        odds(x, 1, 1, 500, 1, 59132290782430712L);
        odds(x, 1, 2, 500, 1, 118264581564861424L);
        odds(x, 1, 2, 1000, 1, 1);
        odds(x, 1, 2, 0, 1, 1);
        odds(x, 1, 3, 500, NONE, NONE);
        odds(x, 1, 3, 1000, NONE, NONE);
        odds(x, 0, 59, 500, NONE, NONE);
        odds(x, 4, 4, 500, 1, 92378);
    }

    // ---- judges ----

    private static void carded() {
        says(TERMS, "CARDED of a JUDGE: CARDS of guests less those of homes, together");
        HomeGround x = noted(n(0, 1, 1, 0, 27, 0, 0, 0), n(1, 0, 1, 0, 10, 0, 0, 0), n(0, 1, 1, 0, 9, 0, 0, 7), n(0, 1, 2, 0, 90, 0, 0, 7));
        is("judge 0", x.carded(0, 59, 0), 5 - 1);
        is("judge 7", x.carded(1, 1, 7), 9);
        is("judge 7, less", x.carded(2, 2, 7), -9);

        says(25, "CARDED");
        is("judge 7, both", x.carded(1, 2, 7), 0);

        says(25, "-1000000: he judged none");
        is("judge 0 of year 2", x.carded(2, 2, 0), NO_SHARE);
        is("judge 0 of no year", x.carded(2, 1, 0), NO_SHARE);
        for (int judge : new int[] {-1, 1, 6, 8, MIN, MAX}) {
            is("judge " + judge, x.carded(0, 59, judge), NO_SHARE);
        }
        is("of none", new HomeGround().carded(0, 59, 0), NO_SHARE);
    }

    private static void longer(HomeGround x, int from, int to, int judge, int over, int under) {
        share("longer " + from + " to " + to + " of " + judge, x.longer(from, to, judge, false), x.longer(from, to, judge, true),
            over, under);
    }

    private static void longer() {
        says(TERMS, "LONGER of a JUDGE: MINUTES where home was one goal behind, by how many, less those where it was one ahead");
        // margins -1, 1 count; 0, 2, -2, and another judge's do not
        HomeGround x = noted(n(0, 1, 1, 12, 0, 7, 0, 3), n(0, 1, 1, 21, 0, 4, 0, 3), n(0, 1, 1, 11, 0, 19, 0, 3),
            n(0, 1, 1, 20, 0, 19, 0, 3), n(0, 1, 1, 2, 0, 19, 0, 3), n(0, 1, 1, 1, 0, 19, 0, 4), n(0, 1, 2, 89, 0, 2, 0, 3),
            n(0, 1, 3, 98, 0, 0, 0, 3));
        longer(x, 1, 1, 3, 3, 1);
        longer(x, 1, 2, 3, 1, 2);

        says(26, "LONGER, as alone()");
        longer(x, 1, 3, 3, 5, 2);
        longer(x, 2, 3, 3, 2, 1);
        HomeGround y = noted(n(0, 1, 1, 1, 0, 0, 0, 0), n(0, 1, 1, 10, 0, 19, 0, 0), n(0, 1, 2, 10, 0, 0, 0, 0), n(0, 1, 3, 1, 0, 19, 0, 0));
        longer(y, 1, 1, 0, -19, 1);
        longer(y, 2, 3, 0, 19, 1);
        longer(y, 1, 3, 0, 0, 1);
        longer(y, 1, 2, 0, -19, 2);

        says(26, "-1000000: one of both has none");
        longer(x, 1, 1, 4, NO_SHARE, NO_SHARE);
        longer(x, 2, 2, 3, NO_SHARE, NO_SHARE);
        longer(x, 3, 3, 3, NO_SHARE, NO_SHARE);
        longer(x, 4, 59, 3, NO_SHARE, NO_SHARE);
        for (int judge : new int[] {-1, 0, 7, 8, MIN, MAX}) {
            longer(x, 0, 59, judge, NO_SHARE, NO_SHARE);
        }
    }

    // ---- FRESH ----

    private static void fresh() {
        says(TERMS, "FRESH of a SIDE by k: points of its first k GAMES at home, less those of its next k at home (in order of YEARS, then as NOTED)");
        // of side 7 at home: year 3 won, lost; year 4 won; year 5 as many; as guest it always wins
        HomeGround x = noted(n(7, 0, 5, 11), n(0, 7, 3, 9), n(7, 0, 3, 10), n(7, 1, 3, 1), n(7, 2, 4, 30), n(1, 7, 5, 9));
        is("by 1", x.fresh(7, 0, 1), 3);
        is("by 2", x.fresh(7, 0, 2), 3 - 4);

        says(27, "FRESH from a YEAR on, k 1 .. 40");
        is("from 3", x.fresh(7, 3, 2), -1);
        is("from 4", x.fresh(7, 4, 1), 2);
        is("from 4 by 2", x.fresh(7, 4, 2), NO_SHARE);
        is("from 5", x.fresh(7, 5, 1), NO_SHARE);
        HomeGround y = new HomeGround();
        for (int k = 0; k < 80; k++) {
            y.note(0, 7, 59 - k / 40, k < 40 ? 1 : 10, 0, 0, 0, 0);
        }
        is("by 40", y.fresh(0, 0, 40), 120);
        is("by 40 from 58", y.fresh(0, 58, 40), 120);
        is("by 40 from 59", y.fresh(0, 59, 40), NO_SHARE);
        is("by 20 from 59", y.fresh(0, 59, 20), 0);
        is("by 39", y.fresh(0, 0, 39), 117 - 3);
    }

    private static void freshRefused() {
        says(27, "-1000000: it has not 2 * k at home then, or other numbers");
        for (int have = 0; have <= 7; have++) {
            HomeGround x = new HomeGround();
            for (int k = 0; k < have; k++) {
                x.note(2, 3, 9, 10, 0, 0, 0, 0);
            }
            x.note(3, 2, 9, 10, 0, 0, 0, 0);
            for (int k = 1; k <= 4; k++) {
                is("by " + k + " of " + have, x.fresh(2, 9, k), 2 * k <= have ? 0 : NO_SHARE);
            }
            is("from 10 of " + have, x.fresh(2, 10, 1), NO_SHARE);
        }
        HomeGround y = new HomeGround();
        for (int k = 0; k < 80; k++) {
            y.note(0, 7, 5, 10, 0, 0, 0, 0);
        }
        for (int k : new int[] {-40, -1, 0, 41, 42, MIN, MAX, 1 << 30}) {
            is("by " + k, y.fresh(0, 5, k), NO_SHARE);
        }
        for (int side : new int[] {-1, 7, 8, MIN, MAX}) {
            is("of side " + side, y.fresh(side, 5, 1), NO_SHARE);
        }
        is("from 60", y.fresh(0, 60, 1), NO_SHARE);
        is("good numbers", y.fresh(0, 5, 40), 0);
        is("of none", new HomeGround().fresh(0, 0, 1), NO_SHARE);
    }

    // ---- FILMS ----

    private static void films() {
        says(TERMS, "how often he was shown a thing by the home SIDE, and how often he gave it, each 0 .. 30");
        HomeGround x = new HomeGround();
        for (boolean sound : new boolean[] {true, false}) {
            is("none", x.films(3, sound, 0, 0), true);
            is("all given", x.films(3, sound, 30, 30), true);
            is("none given", x.films(3, sound, 30, 0), true);
            is("one of one", x.films(3, sound, 1, 1), true);
            is("31 shown", x.films(3, sound, 31, 0), false);
            is("31 shown and given", x.films(3, sound, 31, 31), false);
            is("-1 shown", x.films(3, sound, -1, -1), false);
            is("-1 shown, none given", x.films(3, sound, -1, 0), false);
            is("-1 given", x.films(3, sound, 5, -1), false);
            is("far", x.films(3, sound, MAX, 0), false);
            is("far", x.films(3, sound, MIN, MIN), false);
            is("far", x.films(3, sound, 5, MIN), false);
        }
        is("one of two, and one of one", x.looser(3, true), 2);
    }

    private static void filmsNow() {
        says(28, "FILMS from now on: true; false: gave above shown, or other numbers");
        HomeGround x = new HomeGround();
        is("with sound", x.films(0, true, 3, 1), true);
        is("without", x.films(0, false, 2, 2), true);
        is("the last judge", x.films(7, false, 1, 0), true);
        is("the last judge", x.films(7, true, 1, 1), true);
        is("looser", x.looser(0, false), 3);
        is("looser of 7", x.looser(7, true), 2);
        is("looser of 7", x.looser(7, false), 2);
        for (boolean sound : new boolean[] {true, false}) {
            is("gave one above shown", x.films(0, sound, 3, 4), false);
            is("gave one above none", x.films(0, sound, 0, 1), false);
            is("31 shown", x.films(0, sound, 31, 1), false);
            for (int judge : new int[] {-1, 8, 9, MIN, MAX}) {
                is("judge " + judge, x.films(judge, sound, 3, 1), false);
            }
        }
        is("as it was", x.looser(0, false), 3);
        is("as it was", x.looser(0, true), 10);
        is("as it was", x.looser(7, true), 2);
        is("later ones strike", x.films(0, false, 2, 1), true);
        // two of five, two given: all but the ways with none of them
        is("later ones", x.looser(0, false), 7);
        is("those with sound stay", x.looser(0, true), 10);
        is("later ones strike", x.films(0, true, 0, 0), true);
        is("all without", x.looser(0, true), 1);
    }

    private static void looser() {
        says(TERMS, "in how many of all ways to choose, of all that he was shown, as many as without sound");
        HomeGround x = new HomeGround();
        x.films(1, true, 2, 1);
        x.films(1, false, 2, 1);
        // of four, two given: at least one of them in all but one of six ways
        is("looser", x.looser(1, false), 5);
        is("all ways", x.looser(1, true), 6);

        says(29, "LOOSER, or (all) all ways");
        x.films(1, false, 2, 2);
        is("both of three given", x.looser(1, false), 3);
        x.films(1, false, 2, 0);
        is("at least none", x.looser(1, false), 6);
        x.films(1, false, 0, 0);
        is("none without", x.looser(1, false), 1);
        is("none without, all ways", x.looser(1, true), 1);
        is("of nothing shown", x.looser(2, false), 1);
        is("of nothing shown, all ways", x.looser(2, true), 1);
        x.films(0, true, 30, 0);
        x.films(0, false, 30, 30);
        is("just one way", x.looser(0, false), 1);
        is("30 of 60", x.looser(0, true), 118264581564861424L);
        x.films(7, true, 30, 30);
        x.films(7, false, 30, 0);
        is("all ways", x.looser(7, false), 118264581564861424L);

        judgesApart();

        says(29, "NONE: there is no such JUDGE");
        for (int judge : new int[] {-1, 8, 9, MIN, MAX}) {
            is("judge " + judge, x.looser(judge, false), NONE);
            is("judge " + judge + ", all ways", x.looser(judge, true), NONE);
        }
    }

    /** Of each JUDGE k films with sound, one of them given, and two without, one given. */
    private static void judgesApart() {
        HomeGround x = new HomeGround();
        for (int judge = 0; judge < 8; judge++) {
            x.films(judge, false, 2, 1);
            x.films(judge, true, judge + 1, 1);
        }
        for (int judge = 0; judge < 8; judge++) {
            int all = judge + 3;
            // two of all are given: none of them is chosen in the ways of the others alone
            int ways = all * (all - 1) / 2;
            is("all ways of " + judge, x.looser(judge, true), ways);
            is("looser of " + judge, x.looser(judge, false), ways - (all - 2) * (all - 3) / 2);
        }
        x.films(3, false, 0, 0);
        x.films(3, true, 0, 0);
        for (int judge = 0; judge < 8; judge++) {
            int all = judge + 3;
            is("of the others, " + judge, x.looser(judge, true), judge == 3 ? 1 : all * (all - 1) / 2);
        }
    }

    // ---- bets ----

    private static void had() {
        says(TERMS, "HAD by a price of 101 .. 999: for each GAME the price less 100, if home won, else -100, all together");
        HomeGround x = noted(n(0, 1, 1, 10), n(0, 1, 2, 11), n(0, 1, 3, 1), n(0, 1, 4, 90), n(0, 1, 5, 32));
        is("won", x.had(1, 1, 150), 50);
        is("as many", x.had(2, 2, 150), -100);
        is("lost", x.had(3, 3, 150), -100);
        is("all", x.had(0, 59, 150), 150 - 200);

        says(30, "HAD");
        is("at 101", x.had(0, 59, 101), 3 - 200);
        is("at 999", x.had(0, 59, 999), 3 * 899 - 200);
        is("of none", x.had(6, 59, 999), 0);
        HomeGround y = new HomeGround();
        for (int k = 0; k < 80; k++) {
            y.note(0, 1, 5, 10, 0, 0, 0, 0);
        }
        is("of 80", y.had(5, 5, 999), 80 * 899);

        says(30, "-1000000: another price");
        for (int price : new int[] {100, 1000, 0, -101, MIN, MAX}) {
            is("at " + price, x.had(0, 59, price), NO_SHARE);
            is("of none, at " + price, x.had(6, 59, price), NO_SHARE);
        }
    }

    private static void fixed() {
        says(TERMS, "FIXED: the number of such bets, one after the other (by YEARS, then as NOTED), behind which all together is first below -s");
        // by years: lost, won, as many, lost; at 150: -100, -50, -150, -250
        HomeGround x = noted(n(0, 1, 9, 1), n(0, 1, 3, 2), n(0, 1, 7, 10), n(0, 1, 7, 11));
        int[][] want = {{0, 1}, {99, 1}, {100, 3}, {149, 3}, {150, 4}, {249, 4}, {250, 4}};
        for (int[] w : want) {
            is("by " + w[0], x.fixed(0, 59, 150, w[0]), w[1]);
        }
        is("of two years", x.fixed(7, 9, 150, 49), 2);
        is("of two years, just at it", x.fixed(7, 9, 150, 50), 3);
        is("at a price at which 0 is met", x.fixed(3, 7, 200, 99), 1);
        is("at 200, the second one is at 0", x.fixed(7, 9, 200, 0), 3);
        // first below, though it comes back: -100 behind the first one, +799 behind the second
        is("first below", x.fixed(3, 7, 999, 0), 1);

        says(31, "FIXED by a price and s, 0 .. 9999 (all of some YEARS, if it is never below)");
        is("never below", x.fixed(0, 59, 150, 251), 4);
        is("never below, at most", x.fixed(0, 59, 101, 9999), 4);
        is("never below of two", x.fixed(7, 7, 999, 0), 2);
        is("of none", x.fixed(10, 59, 150, 0), 0);
        HomeGround y = new HomeGround();
        for (int k = 0; k < 80; k++) {
            y.note(0, 1, 5, 0, 0, 0, 0, 0);
        }
        is("of 80, 78 are just -7800", y.fixed(5, 5, 101, 7800), 79);
        is("of 80, by one less", y.fixed(5, 5, 101, 7799), 78);
        is("of 80, never below -8000", y.fixed(5, 5, 101, 8000), 80);
        is("of 80, by 0", y.fixed(5, 5, 101, 0), 1);
        is("of 80, by 9999", y.fixed(5, 5, 101, 9999), 80);
    }

    private static void fixedRefused() {
        says(31, "NONE: other numbers");
        HomeGround x = noted(n(0, 1, 5, 10));
        for (int price : new int[] {100, 1000, 0, -1, MIN, MAX}) {
            is("at " + price, x.fixed(5, 5, price, 0), NONE);
            is("of none, at " + price, x.fixed(6, 59, price, 0), NONE);
        }
        for (int s : new int[] {-1, 10000, -9999, MIN, MAX}) {
            is("by " + s, x.fixed(5, 5, 101, s), NONE);
            is("of none, by " + s, x.fixed(6, 59, 999, s), NONE);
        }
        is("at 101", x.fixed(5, 5, 101, 0), 1);
        is("at 999", x.fixed(5, 5, 999, 9999), 1);
    }
}
