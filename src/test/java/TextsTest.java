/** Promises 1 to 9: the tape, texts, FAULTS, and what is told. */
public final class TextsTest {
    private static final int NONE = HomeGround.NONE;
    private static final Due DUE = new Due();

    public static void main(String[] args) {
        newObject();
        tape();
        slots();
        leagues();
        laws();
        plans();
        wrongForms();
        wrongNumbers();
        tooMany();
        whichFault();
        DUE.end();
    }

    private static String times(int many, String text) {
        StringBuilder all = new StringBuilder();
        for (int i = 0; i < many; i++) {
            all.append(text);
        }
        return all.toString();
    }

    /** Promise 1. */
    private static void newObject() {
        HomeGround x = new HomeGround();
        for (int what = 0; what < 4; what++) {
            DUE.is("new count", x.count(what), 0);
        }
        DUE.is("new fault", x.fault(0), 0);
        DUE.is("new place", x.fault(1), NONE);
        DUE.is("new fault(2)", x.fault(2), NONE);
        DUE.is("new fault(-1)", x.fault(-1), NONE);
        for (int k = -1; k < 4; k++) {
            DUE.is("new again", x.again(k), false);
        }
        DUE.is("new end", x.end(1), NONE);
        DUE.is("new end(0)", x.end(0), 0);
        DUE.is("new noted", x.noted(0, 0), NONE);
        for (int judge = 0; judge < 8; judge++) {
            DUE.is("new looser", x.looser(judge, true), 1);
            DUE.is("new looser", x.looser(judge, false), 1);
        }
        DUE.is("NONE", HomeGround.NONE, -1);
    }

    /** Promises 2 and 3. */
    private static void tape() {
        HomeGround x = new HomeGround();
        for (int i = 1; i <= 25; i++) {
            DUE.is("feed " + i, x.feed(0x20202020, 0x0a0a0a0a, 0x200a200a, 0x20202020, 0x20202020), 20 * i);
        }
        DUE.is("feed 26", x.feed(0, 0, 0, 0, 0), NONE);
        DUE.is("text of 500 blanks", x.text(1, NONE), 0);
        DUE.is("law of 500 blanks", x.law(0, 0), 30);

        DUE.is("feed", x.feed(0, 0, 0, 0, 0), 20);
        DUE.is("end(21)", x.end(21), NONE);
        DUE.is("end(-1)", x.end(-1), NONE);
        DUE.is("end(20)", x.end(20), 20);
        DUE.is("end(3)", x.end(3), 3);
        DUE.is("end(4)", x.end(4), NONE);
        DUE.is("feed behind 3", x.feed(0, 0, 0, 0, 0), 23);
        DUE.is("end(0)", x.end(0), 0);

        // the bytes' order, within a number and between numbers; what end() cut off is overwritten
        DUE.is("feed base 45;", x.feed(0x62617365, 0x2034353b, 0x6b6e6f77, 0x6e20313b, 0x20202020), 20);
        DUE.is("end(8)", x.end(8), 8);
        DUE.is("feed known 7;", x.feed(0x6b6e6f77, 0x6e20373b, 0x0a657374, 0x20332034, 0x3b202020), 28);
        DUE.is("text", x.text(1, NONE), NONE);
        DUE.is("behind a blank, est is no word", x.fault(1), 17);
        x.feed(0x62617365, 0x2034353b, 0x6b6e6f77, 0x6e20313b, 0xffffffff);
        x.end(8);
        x.feed(0x6b6e6f77, 0x6e20373b, 0x72657374, 0x20332034, 0x3b202020);
        DUE.is("text", x.text(1, NONE), 1);
        DUE.is("base", x.law(1, 0), 45);
        DUE.is("known", x.law(1, 10), 7);
        DUE.is("rest", x.law(1, 12), 3);
        DUE.is("rest per", x.law(1, 22), 4);

        // 481 bytes leave no room for twenty
        for (int i = 0; i < 25; i++) {
            x.feed(0, 0, 0, 0, 0);
        }
        x.end(481);
        DUE.is("feed behind 481", x.feed(0, 0, 0, 0, 0), NONE);
        DUE.is("nothing came", x.end(482), NONE);
        x.end(480);
        DUE.is("feed behind 480", x.feed(0, 0, 0, 0, 0), 500);
        DUE.is("a high byte", x.end(500), 500);
        DUE.is("text", x.text(0, NONE), NONE);
        DUE.is("fault", x.fault(0), 1);
        DUE.is("place", x.fault(1), 0);
    }

    /** Promise 4. */
    private static void slots() {
        for (int sort = 0; sort < 3; sort++) {
            HomeGround x = new HomeGround();
            DUE.is("in the place of none", Due.text(x, sort, 0, ""), -2);
            DUE.is("count", x.count(sort), 0);
            DUE.is("first", Due.text(x, sort, NONE, ""), 0);
            DUE.is("second", Due.text(x, sort, NONE, " \n "), 1);
            DUE.is("in the place of a third", Due.text(x, sort, 2, ""), -2);
            DUE.is("third", Due.text(x, sort, NONE, ""), 2);
            DUE.is("count", x.count(sort), 3);
            Due.feed(x, "!");
            DUE.is("fourth", x.text(sort, NONE), -2);
            DUE.is("no text is read", x.fault(0), 0);
            DUE.is("no text is read", x.fault(1), NONE);
            DUE.is("the tape is empty", x.end(1), NONE);
            DUE.is("count", x.count(sort), 3);
            DUE.is("in the place of the second", Due.text(x, sort, 1, ""), 1);
            DUE.is("at -2", Due.text(x, sort, -2, ""), -2);
            DUE.is("at 3", Due.text(x, sort, 3, ""), -2);
            DUE.is("a fault", Due.text(x, sort, 1, "!"), NONE);
            DUE.is("a fault", x.fault(0), 1);
            DUE.is("a fault's place", x.fault(1), 0);
            DUE.is("the tape is empty", x.end(1), NONE);
            Due.feed(x, "!");
            DUE.is("no such sort", x.text(3, NONE), -2);
            DUE.is("no such sort leaves no fault", x.fault(0), 0);
            DUE.is("no such sort leaves no place", x.fault(1), NONE);
            DUE.is("the tape is empty", x.end(1), NONE);
            DUE.is("no such sort", Due.text(x, -1, 0, ""), -2);
            DUE.is("a fault again", Due.text(x, sort, 0, " ?"), NONE);
            DUE.is("its place", x.fault(1), 1);
            DUE.is("without a fault", Due.text(x, sort, 0, ""), 0);
            DUE.is("no fault any more", x.fault(0), 0);
            DUE.is("no place any more", x.fault(1), NONE);
        }
        // a text strikes the one in whose place it comes, whole; with a FAULT it strikes nothing
        HomeGround x = new HomeGround();
        Due.text(x, 1, NONE, "base 1;known 2;rest 3 4;");
        Due.text(x, 1, NONE, "base 7;");
        DUE.is("fault", Due.text(x, 1, 0, "base 9;known 51;"), NONE);
        DUE.is("base stays", x.law(0, 0), 1);
        DUE.is("place", Due.text(x, 1, 0, "known 5;"), 0);
        DUE.is("base struck", x.law(0, 0), 30);
        DUE.is("known", x.law(0, 10), 5);
        DUE.is("rest struck", x.law(0, 12), 0);
        DUE.is("rest's per struck", x.law(0, 22), 1);
        DUE.is("the other one stays", x.law(1, 0), 7);
    }

    /** Promises 6 and 7. */
    private static void leagues() {
        HomeGround x = new HomeGround();
        DUE.is("no league", x.league(0, 0), NONE);
        DUE.is("no league", x.miles(0, 0, 0), NONE);
        String text = "ground 1 2 3;ground 99 98 999;side 1 50;miles 0 1 9999;\nside 1 0;ground0 0 0;miles 1 0 7;side 0 33;"
                + "miles 2 1 0012;side 2 9;";
        DUE.is("text", Due.text(x, 0, NONE, text), 0);
        DUE.is("grounds", x.league(0, 0), 3);
        DUE.is("sides", x.league(0, 1), 4);
        int[] grounds = {1, 2, 3, 99, 98, 999, 0, 0, 0};
        for (int g = 0; g < 10; g++) {
            for (int what = 0; what < 3; what++) {
                DUE.is("ground " + g, x.league(0, 10 + 10 * what + g), g < 3 ? grounds[3 * g + what] : NONE);
            }
        }
        int[] sides = {1, 50, 1, 0, 0, 33, 2, 9};
        for (int s = 0; s < 10; s++) {
            DUE.is("side's ground " + s, x.league(0, 40 + s), s < 4 ? sides[2 * s] : NONE);
            DUE.is("side's strength " + s, x.league(0, 50 + s), s < 4 ? sides[2 * s + 1] : NONE);
        }
        for (int what : new int[] {-1, 2, 9, 60, 61, 100, Integer.MAX_VALUE, Integer.MIN_VALUE}) {
            DUE.is("what " + what, x.league(0, what), NONE);
        }
        DUE.is("no second league", x.league(1, 0), NONE);
        DUE.is("no league -1", x.league(-1, 0), NONE);
        DUE.is("no league 3", x.league(3, 0), NONE);

        int[][] miles = {{0, 7, 0}, {7, 0, 12}, {0, 12, 0}};
        for (int a = -1; a < 5; a++) {
            for (int b = -1; b < 5; b++) {
                boolean there = a >= 0 && a < 3 && b >= 0 && b < 3;
                DUE.is("miles " + a + " " + b, x.miles(0, a, b), there ? miles[a][b] : NONE);
            }
        }
        DUE.is("miles of no league", x.miles(1, 0, 0), NONE);
        DUE.is("miles of no league", x.miles(-1, 0, 0), NONE);

        // as many as there may be
        Due.text(x, 0, NONE, times(10, "ground 9 8 7;") + times(8, "side 9 6;") + "miles 8 9 5;miles 9 0 4;");
        DUE.is("ten grounds", x.league(1, 0), 10);
        DUE.is("eight sides", x.league(1, 1), 8);
        DUE.is("height", x.league(1, 19), 9);
        DUE.is("track", x.league(1, 29), 8);
        DUE.is("crowd", x.league(1, 39), 7);
        DUE.is("side 7's ground", x.league(1, 47), 9);
        DUE.is("side 8", x.league(1, 48), NONE);
        DUE.is("side 7's strength", x.league(1, 57), 6);
        DUE.is("side 8", x.league(1, 58), NONE);
        DUE.is("miles 9 8", x.miles(1, 9, 8), 5);
        DUE.is("miles 0 9", x.miles(1, 0, 9), 4);
        DUE.is("miles 9 10", x.miles(1, 9, 10), NONE);
    }

    /** Promise 8. */
    private static void laws() {
        HomeGround x = new HomeGround();
        DUE.is("no law", x.law(0, 0), NONE);
        Due.text(x, 1, NONE, "");
        DUE.is("base at first", x.law(0, 0), 30);
        for (int k = 0; k < 6; k++) {
            DUE.is("at first", x.law(0, 10 + k), 0);
            DUE.is("per at first", x.law(0, 20 + k), k == 0 ? NONE : 1);
        }
        Due.text(x, 1, NONE, "height 6 99;judged 5 999;sung 4 998;rest 3 30;miles 2 9999;known 1;base 100;");
        Due.text(x, 1, NONE, "height 6 99;base 0;height 50 1;base 2;rest 50 2;miles 1 1;miles 0 3;known 50;known 49;");
        int[] first = {100, 1, 2, 3, 4, 5, 6, 9999, 30, 998, 999, 99};
        int[] second = {2, 49, 0, 50, 0, 0, 50, 3, 2, 1, 1, 1};
        for (int k = 0; k < 2; k++) {
            int[] want = k == 0 ? first : second;
            DUE.is("base", x.law(k + 1, 0), want[0]);
            for (int part = 0; part < 6; part++) {
                DUE.is("much of " + part, x.law(k + 1, 10 + part), want[1 + part]);
                DUE.is("per of " + part, x.law(k + 1, 20 + part), part == 0 ? NONE : want[6 + part]);
            }
        }
        for (int what : new int[] {-1, 1, 9, 16, 17, 19, 26, 27, Integer.MAX_VALUE, Integer.MIN_VALUE}) {
            DUE.is("law what " + what, x.law(1, what), NONE);
        }
        DUE.is("law 3", x.law(3, 0), NONE);
        DUE.is("law -1", x.law(-1, 0), NONE);
    }

    /** Promise 9. */
    private static void plans() {
        HomeGround x = new HomeGround();
        DUE.is("no plan", x.plan(0, NONE, 0), -2);
        DUE.is("no plan", x.plan(0, 0, 0), -2);
        Due.text(x, 2, NONE, "at 5;");
        DUE.is("an at without game", x.plan(0, NONE, 0), 0);
        DUE.is("no game", x.plan(0, 0, 0), -2);
        String text = "game 0 1;at 9;at 4;day 3;empty;soft;game 7 6;game 1 0;day 3;people;at 0;day 999;strict;game 2 3;game 3 2;";
        DUE.is("text", Due.text(x, 2, NONE, text), 1);
        DUE.is("games", x.plan(1, NONE, 0), 5);
        int[][] want = {{0, 1, 0, 1, 0, NONE}, {7, 6, 3, 0, 1, 4}, {1, 0, 3, 0, 1, NONE}, {2, 3, 999, 1, 0, 0},
            {3, 2, 999, 1, 0, NONE}};
        for (int game = 0; game < 5; game++) {
            for (int what = 0; what < 6; what++) {
                DUE.is("game " + game + " what " + what, x.plan(1, game, what), want[game][what]);
            }
            DUE.is("what 6", x.plan(1, game, 6), -2);
            DUE.is("what -1", x.plan(1, game, -1), -2);
        }
        DUE.is("game 5", x.plan(1, 5, 0), -2);
        DUE.is("game -2", x.plan(1, -2, 0), -2);
        DUE.is("all, what 1", x.plan(1, NONE, 1), -2);
        DUE.is("all, what -1", x.plan(1, NONE, -1), -2);
        DUE.is("plan 2", x.plan(2, NONE, 0), -2);
        DUE.is("plan -1", x.plan(-1, NONE, 0), -2);
        DUE.is("plan 3", x.plan(3, 0, 0), -2);
        DUE.is("forty", Due.text(x, 2, NONE, times(40, "game 4 2;")), 2);
        DUE.is("forty", x.plan(2, NONE, 0), 40);
        DUE.is("the last", x.plan(2, 39, 0), 4);
        DUE.is("the last", x.plan(2, 39, 1), 2);
        DUE.is("none behind", x.plan(2, 40, 0), -2);
    }

    /** Promise 5, FAULT 1. */
    private static void wrongForms() {
        for (int sort = 0; sort < 3; sort++) {
            DUE.fault(sort, "", 0, NONE);
            DUE.fault(sort, "\n \n", 0, NONE);
            DUE.fault(sort, ";", 1, 0);
            DUE.fault(sort, " 7", 1, 1);
            DUE.fault(sort, "\t", 1, 0);
            DUE.fault(sort, "\r\n", 1, 0);
            DUE.fault(sort, "  Game 1 2;", 1, 2);
            DUE.fault(sort, "\u0000", 1, 0);
            DUE.fault(sort, "\u00e9", 1, 0);
            DUE.fault(sort, "grounds 1 1 1;", 1, 0);
            DUE.fault(sort, "12345", 1, 0);
        }
        DUE.fault(0, "ground 1 1 1", 1, 12);
        DUE.fault(0, "ground 1 1 1 \n ", 1, 15);
        DUE.fault(0, "ground 1 1 1;;", 1, 13);
        DUE.fault(0, "ground 1 1;", 1, 10);
        DUE.fault(0, "ground 1 1 1 1;", 1, 13);
        DUE.fault(0, "ground 1 1 00001;", 1, 11);
        DUE.fault(0, "ground 1 1 0001;", 0, NONE);
        DUE.fault(0, "ground 1 1 1\n2;", 1, 13);
        DUE.fault(0, "ground 1 1 1 12345", 1, 13);
        DUE.fault(0, "ground 1 one 1;", 1, 9);
        DUE.fault(0, "ground 1 -1 1;", 1, 9);
        DUE.fault(0, "ground 1a 1 1;", 1, 8);
        DUE.fault(0, "ground1 1 1;", 0, NONE);
        DUE.fault(0, "ground 1 1 1;side0 1;side 0 0\n;", 0, NONE);
        DUE.fault(0, "gro und 1 1 1;", 1, 0);
        DUE.fault(2, "softz;", 1, 0);
        DUE.fault(2, "softa;", 1, 0);
        DUE.fault(2, "soft`;", 1, 4);
        DUE.fault(2, "soft{;", 1, 4);
        DUE.fault(2, "at 1/;", 1, 4);
        DUE.fault(2, "at 1:;", 1, 4);
        DUE.fault(2, "game 0 1;game 0 9999;", 2, 16);
        DUE.fault(0, "ground", 1, 6);
        DUE.fault(0, "ground ", 1, 7);
        DUE.fault(0, "groun?", 1, 0);
        DUE.fault(0, "ground?", 1, 6);
        DUE.fault(0, "ground 1?", 1, 8);
        DUE.fault(0, "base 1;", 1, 0);
        DUE.fault(0, "game 1 2;", 1, 0);
        DUE.fault(0, "miles 1 2;", 1, 9);
        DUE.fault(1, "miles 1 2 3;", 1, 10);
        DUE.fault(1, "ground 1 1 1;", 1, 0);
        DUE.fault(1, "day 1;", 1, 0);
        DUE.fault(1, "base 1 1;", 1, 7);
        DUE.fault(1, "known;", 1, 5);
        DUE.fault(1, "known 1 1;", 1, 8);
        DUE.fault(1, "rest 1;", 1, 6);
        DUE.fault(1, "sung 1;", 1, 6);
        DUE.fault(1, "judged 1;", 1, 8);
        DUE.fault(1, "height 1;", 1, 8);
        DUE.fault(1, "height 1 1 1;", 1, 11);
        DUE.fault(2, "side 1 1;", 1, 0);
        DUE.fault(2, "base 1;", 1, 0);
        DUE.fault(2, "day;", 1, 3);
        DUE.fault(2, "people 1;", 1, 7);
        DUE.fault(2, "empty people;", 1, 6);
        DUE.fault(2, "soft 1;", 1, 5);
        DUE.fault(2, "strict 1;", 1, 7);
        DUE.fault(2, "at;", 1, 2);
        DUE.fault(2, "at 1 2;", 1, 5);
        DUE.fault(2, "game 1;", 1, 6);
        DUE.fault(2, "game 1 2 3;", 1, 9);
        DUE.fault(2, "soft;strict;people;empty;day 1;at 1;game 1 2;", 0, NONE);
    }

    /** Promise 5, FAULT 2. */
    private static void wrongNumbers() {
        DUE.fault(0, "ground 99 99 999;", 0, NONE);
        DUE.fault(0, "ground 100 99 999;", 2, 7);
        DUE.fault(0, "ground 99 100 999;", 2, 10);
        DUE.fault(0, "ground 99 99 1000;", 2, 13);
        DUE.fault(0, "ground 1 1 1;side 0 50;", 0, NONE);
        DUE.fault(0, "ground 1 1 1;side 0 51;", 2, 20);
        DUE.fault(0, "ground 1 1 1;side 1 50;ground 1 1 1;", 2, 18);
        DUE.fault(0, "side 0 50;ground 1 1 1;", 2, 5);
        DUE.fault(0, "ground 1 1 1;ground 1 1 1;miles 0 1 9999;", 0, NONE);
        DUE.fault(0, "ground 1 1 1;ground 1 1 1;miles 1 1 5;", 2, 34);
        DUE.fault(0, "ground 1 1 1;ground 1 1 1;miles 2 2 5;", 2, 32);
        DUE.fault(0, "ground 1 1 1;ground 1 1 1;miles 0 2 5;", 2, 34);
        DUE.fault(0, "ground 1 1 1;miles 0 1 5;ground 1 1 1;", 2, 21);
        DUE.fault(0, "miles 0 1 5;", 2, 6);
        DUE.fault(1, "base 100;base 0;known 50;known 0;", 0, NONE);
        DUE.fault(1, "base 101;", 2, 5);
        DUE.fault(1, "known 51;", 2, 6);
        DUE.fault(1, "miles 50 9999;miles 0 1;", 0, NONE);
        DUE.fault(1, "miles 51 9999;", 2, 6);
        DUE.fault(1, "miles 1 0;", 2, 8);
        DUE.fault(1, "rest 50 30;rest 0 1;", 0, NONE);
        DUE.fault(1, "rest 51 30;", 2, 5);
        DUE.fault(1, "rest 50 31;", 2, 8);
        DUE.fault(1, "rest 50 0;", 2, 8);
        for (String word : new String[] {"sung", "judged"}) {
            int at = word.length() + 1;
            DUE.fault(1, word + " 50 999;" + word + " 0 1;", 0, NONE);
            DUE.fault(1, word + " 51 999;", 2, at);
            DUE.fault(1, word + " 50 1000;", 2, at + 3);
            DUE.fault(1, word + " 50 0;", 2, at + 3);
        }
        DUE.fault(1, "height 50 99;height 0 1;", 0, NONE);
        DUE.fault(1, "height 51 99;", 2, 7);
        DUE.fault(1, "height 50 100;", 2, 10);
        DUE.fault(1, "height 50 0;", 2, 10);
        DUE.fault(2, "day 0;day 999;day 999;", 0, NONE);
        DUE.fault(2, "day 1000;", 2, 4);
        DUE.fault(2, "day 5;day 4;", 2, 10);
        DUE.fault(2, "day 5;game 0 1;day 4;", 2, 19);
        DUE.fault(2, "at 9;", 0, NONE);
        DUE.fault(2, "at 10;", 2, 3);
        DUE.fault(2, "game 7 0;game 0 7;", 0, NONE);
        DUE.fault(2, "game 8 0;", 2, 5);
        DUE.fault(2, "game 0 8;", 2, 7);
        DUE.fault(2, "game 8 8;", 2, 5);
        DUE.fault(2, "game 3 3;", 2, 7);
    }

    /** Promise 5, FAULT 3. */
    private static void tooMany() {
        String ten = times(10, "ground 1 1 1;");
        String eight = times(8, "side 0 1;");
        DUE.fault(0, ten + eight, 0, NONE);
        DUE.fault(0, ten + " ground 1 1 1;", 3, 131);
        DUE.fault(0, ten + "ground 100 1 1;", 3, 130);
        DUE.fault(0, ten + eight + "side 0 1;", 3, 130 + 72);
        DUE.fault(0, ten + eight + "miles 0 9 1;side 99 99;", 3, 130 + 72 + 12);
        String forty = times(40, "game 0 1;");
        DUE.fault(2, forty + "day 5;at 3;soft;", 0, NONE);
        DUE.fault(2, forty + "game 0 1;", 3, 360);
        DUE.fault(2, forty + "soft;game 9 9;", 3, 365);
    }

    /** Promise 5: FAULT 1 goes before all others, wherever it is; of the others the first by place. */
    private static void whichFault() {
        DUE.fault(0, "ground 100 1 1;?", 1, 15);
        DUE.fault(0, "ground 100 1 1;ground 1 1 1", 1, 27);
        DUE.fault(0, "ground 1 1 1;side 7 99;side 0 99;", 2, 18);
        DUE.fault(0, times(10, "ground 1 1 1;") + "ground 1 1 1;side 0 51;", 3, 130);
        DUE.fault(0, times(9, "ground 1 1 1;") + "ground 1 100 1;ground 1 1 1;", 2, 126);
        DUE.fault(0, times(10, "ground 1 1 1;") + "ground 1 1 1;side 0 5", 1, 151);
        DUE.fault(2, times(40, "game 0 1;") + "game 0 1;game", 1, 373);
        DUE.fault(2, "day 9;game 0 0;day 1;", 2, 13);
        DUE.fault(1, "base 101;known 51;", 2, 5);
    }
}
