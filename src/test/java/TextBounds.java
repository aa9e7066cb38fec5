import java.util.List;

/** "Terms" 1 and promises 1 to 10: the tape, texts, FAULTS, and what is told. */
final class TextBounds extends Bounds {
    private static final String GROUND = "ground 1 2 3;";
    private static final String TEN = times(10, GROUND);
    private static final String EIGHT = times(8, "side 0 1;");
    private static final String FORTY = times(40, "game 0 1;");

    private TextBounds() { }

    static void all() {
        grounds();
        miles();
        sides();
        lawNumbers();
        planNumbers();
        days();
        otherGround();
        tape();
        blanksAndLetters();
        otherWords();
        numbers();
        leagueForm();
        lawForm();
        planForm();
        later();
        places();
        whichFault();
        unknownGround();
        alike();
        faultyLineCounts();
        tooMany();
        threeOfEach();
        goes();
        newObject();
        feed();
        end();
        text();
        textRefused();
        fault();
        league();
        milesAsked();
        law();
        plan();
    }

    // ---- "Terms" 1: numbers ----

    private static void grounds() {
        says(TERMS, "GROUNDS, at most 10, from 0 on");
        good(LEAGUE, TEN);
        fault(LEAGUE, TEN + GROUND, 3, TEN.length());
        HomeGround x = told(TEN, null, null);
        is("grounds", x.league(0, 0), 10);
        is("ground 9", x.league(0, 19), 1);

        says(TERMS, "HEIGHT, 0 .. 99");
        range(LEAGUE, "ground # 1 1;", 0, 99);
        is("least", told("ground 0 1 1;", null, null).league(0, 10), 0);
        is("most", told("ground 99 1 1;", null, null).league(0, 10), 99);

        says(TERMS, "TRACK, 0 .. 99");
        range(LEAGUE, "ground 1 # 1;", 0, 99);
        is("least", told("ground 1 0 1;", null, null).league(0, 20), 0);
        is("most", told("ground 1 99 1;", null, null).league(0, 20), 99);

        says(TERMS, "CROWD, 0 .. 999");
        range(LEAGUE, "ground 1 1 #;", 0, 999);
        is("least", told("ground 1 1 0;", null, null).league(0, 30), 0);
        is("most", told("ground 1 1 999;", null, null).league(0, 30), 999);
    }

    private static void miles() {
        says(TERMS, "MILES between two, 0 .. 9999 (0 at first, both ways)");
        String two = times(2, GROUND);
        range(LEAGUE, two + "miles 0 1 #;", 0, 9999);
        HomeGround x = told(two, null, null);
        is("at first", x.miles(0, 0, 1), 0);
        is("at first, back", x.miles(0, 1, 0), 0);
        Due.text(x, LEAGUE, 0, two + "miles 0 1 9999;");
        is("most", x.miles(0, 0, 1), 9999);
        is("most, back", x.miles(0, 1, 0), 9999);
        Due.text(x, LEAGUE, 0, two + "miles 1 0 9998;miles 1 0 0;");
        is("least", x.miles(0, 1, 0), 0);
        is("least, back", x.miles(0, 0, 1), 0);
        Due.text(x, LEAGUE, 0, TEN + "miles 9 8 5;");
        is("the last two grounds", x.miles(0, 8, 9), 5);
    }

    private static void sides() {
        says(TERMS, "SIDES, at most 8, from 0 on");
        good(LEAGUE, GROUND + EIGHT);
        fault(LEAGUE, GROUND + EIGHT + "side 0 1;", 3, 13 + 72);
        HomeGround x = told(GROUND + EIGHT, null, null);
        is("sides", x.league(0, 1), 8);
        is("side 7", x.league(0, 57), 1);

        says(TERMS, "a GROUND of its own (perhaps of several)");
        range(LEAGUE, TEN + "side # 1;", 0, 9);
        range(LEAGUE, GROUND + "side # 1;", 0, 0);
        HomeGround y = told(TEN + "side 9 1;side 0 2;side 9 3;", null, null);
        is("side 0's", y.league(0, 40), 9);
        is("side 1's", y.league(0, 41), 0);
        is("side 2's, as side 0's", y.league(0, 42), 9);

        says(TERMS, "a STRENGTH, 0 .. 50");
        range(LEAGUE, GROUND + "side 0 #;", 0, 50);
        HomeGround z = told(GROUND + "side 0 0;side 0 50;", null, null);
        is("least", z.league(0, 50), 0);
        is("most", z.league(0, 51), 50);
    }

    private static void lawNumbers() {
        says(TERMS, "BASE, 0 .. 100 (30 at first)");
        range(LAW, "base #;", 0, 100);
        is("at first", told(null, "", null).law(0, 0), 30);
        is("least", told(null, "base 0;", null).law(0, 0), 0);
        is("most", told(null, "base 100;", null).law(0, 0), 100);

        String[] words = {"known", "miles", "rest", "sung", "judged", "height"};
        int[] most = {0, 9999, 30, 999, 999, 99};
        for (int part = 0; part < 6; part++) {
            String word = words[part];
            String per = part == 0 ? ";" : " 1;";
            says(TERMS, "of six PARTS how much, 0 .. 50 (0 at first)");
            range(LAW, word + " #" + per, 0, 50);
            is(word + " at first", told(null, "", null).law(0, 10 + part), 0);
            is(word + " least", told(null, word + " 50" + per + word + " 0" + per, null).law(0, 10 + part), 0);
            is(word + " most", told(null, word + " 50" + per, null).law(0, 10 + part), 50);
            if (part == 0) {
                says(TERMS, "but for the first one");
                fault(LAW, "known 1 1;", 1, 8);
                is("no PER", told(null, "known 1;", null).law(0, 20), NONE);
                continue;
            }
            says(TERMS, "of how many, PER (1 at first)");
            is(word + " at first", told(null, "", null).law(0, 20 + part), 1);
            says(TERMS, part < 3 ? "PER 1 .. " + most[part] : word.toUpperCase() + ", 1 .. " + most[part]);
            range(LAW, word + " 1 #;", 1, most[part]);
            is(word + " least", told(null, word + " 1 9;" + word + " 1 1;", null).law(0, 20 + part), 1);
            is(word + " most", told(null, word + " 1 " + most[part] + ";", null).law(0, 20 + part), most[part]);
        }
    }

    private static void planNumbers() {
        says(TERMS, "GAMES, at most 40, from 0 on");
        good(PLAN, FORTY);
        fault(PLAN, FORTY + "game 0 1;", 3, 360);
        HomeGround x = told(null, null, times(39, "game 0 1;") + "game 7 6;");
        is("games", x.plan(0, NONE, 0), 40);
        is("game 39", x.plan(0, 39, 0), 7);

        says(TERMS, "home, guest, 0 .. 7");
        range(PLAN, "game # 1;", 0, 7);
        range(PLAN, "game 1 #;", 0, 7);
        HomeGround y = told(null, null, "game 7 0;game 0 7;");
        is("home 7", y.plan(0, 0, 0), 7);
        is("guest 0", y.plan(0, 0, 1), 0);
        is("home 0", y.plan(0, 1, 0), 0);
        is("guest 7", y.plan(0, 1, 1), 7);

        says(TERMS, "a home SIDE, a guest (another one)");
        for (int side = 0; side < 8; side++) {
            fault(PLAN, "game " + side + " " + side + ";", 2, 7);
        }
        good(PLAN, "game 0 1;game 1 0;");

        says(TERMS, "PEOPLE are there at first; strict at first");
        HomeGround z = told(null, null, "game 0 1;empty;soft;game 0 1;game 0 1;people;strict;game 0 1;");
        int[] people = {1, 0, 0, 1};
        int[] soft = {0, 1, 1, 0};
        for (int game = 0; game < 4; game++) {
            is("people in " + game, z.plan(0, game, 3), people[game]);
            is("soft in " + game, z.plan(0, game, 4), soft[game]);
        }
    }

    private static void days() {
        says(TERMS, "DAY, 0 .. 999, not below the one ahead, 0 at first");
        range(PLAN, "day #;", 0, 999);
        good(PLAN, "day 7;day 7;");
        fault(PLAN, "day 7;day 6;", 2, 10);
        good(PLAN, "day 7;day 8;");
        fault(PLAN, "day 7;game 0 1;soft;day 6;", 2, 24);
        fault(PLAN, "day 999;day 998;", 2, 12);
        fault(PLAN, "day 999;day 1000;", 2, 12);
        fault(PLAN, "day 1;day 0;", 2, 10);
        HomeGround x = told(null, null, "game 0 1;day 0;game 0 1;day 999;day 999;game 0 1;game 0 1;");
        int[] days = {0, 0, 999, 999};
        for (int game = 0; game < 4; game++) {
            is("game " + game, x.plan(0, game, 2), days[game]);
        }
    }

    private static void otherGround() {
        says(TERMS, "the next game alone is on GROUND 0 .. 9");
        range(PLAN, "at #;game 0 1;", 0, 9);
        // at the end of a text no game comes that it could be of
        range(PLAN, "at #;", 0, 9);
        HomeGround x = told(null, null, "game 0 1;at 0;game 0 1;game 0 1;at 9;day 1;soft;game 0 1;game 0 1;at 4;");
        int[] grounds = {NONE, 0, NONE, 9, NONE};
        for (int game = 0; game < 5; game++) {
            is("game " + game, x.plan(0, game, 5), grounds[game]);
        }

        says(TERMS, "perhaps another GROUND than that of the home SIDE");
        is("none", x.plan(0, 0, 5), NONE);
        is("ground 9", x.plan(0, 3, 5), 9);
    }

    // ---- "Terms" 1: tape and tokens ----

    private static void tape() {
        says(TERMS, "THE TAPE has at most 500 bytes");
        HomeGround x = new HomeGround();
        for (int k = 1; k <= 25; k++) {
            is("feed " + k, x.feed(0, 0, 0, 0, 0), 20 * k);
        }
        is("500 bytes", x.end(500), 500);
        is("501 bytes", x.end(501), NONE);
        is("a 26th feed", x.feed(0, 0, 0, 0, 0), NONE);
        // all 500 bytes are read: the last one ends the last line
        String most = " ".repeat(493) + "base 1;";
        good(LAW, most);
        fault(LAW, most.substring(1, 500) + "?", 1, 499);
    }

    private static void blanksAndLetters() {
        says(TERMS, "TOKENS, as long as they go, blanks (10, 32) between");
        good(LAW, " \n base \n 1 \n ; \n ");
        good(LAW, "base 1;base 2;");
        good(LAW, "base1;");
        good(LEAGUE, GROUND + "side0 1;");
        for (int sign : new int[] {0, 9, 11, 13, 31, 33, 127, 128, 138, 160, 255}) {
            fault(LAW, "base" + (char) sign + "1;", 1, 4);
            fault(LAW, (char) sign + "base 1;", 1, 0);
            fault(LAW, "base 1;" + (char) sign, 1, 7);
            fault(LAW, "base 1" + (char) sign + ";", 1, 6);
        }
        fault(LAW, "ba se 1;", 1, 0);
        fault(LAW, "basebase 1;", 1, 0);
        fault(LAW, "base 1 2;", 1, 7);
        fault(LAW, "based 1;", 1, 0);
        fault(LAW, "bas 1;", 1, 0);

        says(TERMS, "words, rows of letters a .. z");
        for (int sign : new int[] {'a' - 1, 'z' + 1, 'A', 'Z'}) {
            fault(LAW, "base" + (char) sign + " 1;", 1, 4);
            fault(LAW, (char) sign + "base 1;", 1, 0);
        }
        // a and z are letters: they make another word
        fault(LAW, "basea 1;", 1, 0);
        fault(LAW, "basez 1;", 1, 0);
        fault(LAW, "BASE 1;", 1, 0);

        says(TERMS, "; one byte");
        good(LAW, "base 1;base 1;");
        fault(LAW, "base 1;;", 1, 7);
        fault(LAW, "base 1;;base 1;", 1, 7);
        fault(LAW, ";base 1;", 1, 0);
        fault(LAW, "base 1:", 1, 6);
    }

    /** Each letter of each word counts, and so does how many there are. */
    private static void otherWords() {
        says(TERMS, "words, rows of letters a .. z");
        String[][] words = {{"ground", "side", "miles"}, {"base", "known", "miles", "rest", "sung", "judged", "height"},
            {"day", "people", "empty", "soft", "strict", "at", "game"}};
        for (int sort = 0; sort < 3; sort++) {
            for (String word : words[sort]) {
                for (int i = 0; i < word.length(); i++) {
                    String ahead = word.substring(0, i);
                    String behind = word.substring(i + 1);
                    fault(sort, ahead + "q" + behind, 1, 0);
                    fault(sort, ahead + behind, 1, 0);
                    fault(sort, ahead + "q" + word.substring(i), 1, 0);
                }
                fault(sort, word + word, 1, 0);
                fault(sort, word, 1, word.length());
            }
        }
    }

    private static void numbers() {
        says(TERMS, "NUMBERS, 1 to 4 digits");
        good(LAW, "base 1;");
        good(LAW, "base 0001;");
        good(LAW, "base 0100;");
        good(LAW, "miles 1 9999;");
        fault(LAW, "base ;", 1, 5);
        fault(LAW, "base 00001;", 1, 5);
        fault(LAW, "base 1/;", 1, 6);
        fault(LAW, "base 1:;", 1, 6);
        is("0 and 9 are digits", told(null, "base 0090;", null).law(0, 0), 90);
        is("four digits", told(null, "miles 1 9876;", null).law(0, 21), 9876);
        is("ahead of it noughts", told(null, "base 0007;", null).law(0, 0), 7);

        says(TERMS, "(a longer row of digits is no token)");
        fault(LAW, "base 12345;", 1, 5);
        fault(LAW, "base 1 23456;", 1, 7);
        fault(LAW, "miles 1 10000;", 1, 8);
        fault(LAW, "12345", 1, 0);
        fault(LAW, "base 4294967297;", 1, 5);
        fault(LAW, "base " + "0".repeat(400) + ";", 1, 5);
    }

    // ---- "Terms" 1: forms ----

    /** A line of a word and so many NUMBERS: none fewer, none more, and it has an end. */
    private static void form(int sort, String ahead, String word, String... numbers) {
        String line = ahead + word;
        for (String number : numbers) {
            fault(sort, line + ";", 1, line.length());
            fault(sort, line, 1, line.length());
            fault(sort, line + " x", 1, line.length() + 1);
            line += " " + number;
        }
        good(sort, line + ";");
        fault(sort, line, 1, line.length());
        fault(sort, line + "\n", 1, line.length() + 1);
        fault(sort, line + " 1;", 1, line.length() + 1);
        fault(sort, line + " " + word + ";", 1, line.length() + 1);
        for (int other = 0; other < 3; other++) {
            if (other != sort && !word.equals("miles")) {
                fault(other, word, 1, 0);
            }
        }
    }

    private static void leagueForm() {
        says(TERMS, "{('ground' NUMBER NUMBER NUMBER | 'side' NUMBER NUMBER | 'miles' NUMBER NUMBER NUMBER) ';'}");
        good(LEAGUE, "");
        form(LEAGUE, "", "ground", "1", "2", "3");
        form(LEAGUE, GROUND, "side", "0", "1");
        form(LEAGUE, GROUND + GROUND, "miles", "0", "1", "5");

        says(TERMS, "(HEIGHT, TRACK, CROWD; GROUND, STRENGTH; a GROUND, another one, so many)");
        HomeGround x = told("ground 4 5 6;ground 7 8 9;side 1 2;miles 0 1 3;", null, null);
        int[][] want = {{10, 4}, {20, 5}, {30, 6}, {11, 7}, {21, 8}, {31, 9}, {40, 1}, {50, 2}};
        for (int[] w : want) {
            is("what " + w[0], x.league(0, w[0]), w[1]);
        }
        is("so many", x.miles(0, 0, 1), 3);
    }

    private static void lawForm() {
        says(TERMS, "{(('base' | 'known') NUMBER | ('miles' | 'rest' | 'sung' | 'judged' | 'height') NUMBER NUMBER) ';'}");
        good(LAW, "");
        for (String word : List.of("base", "known")) {
            form(LAW, "", word, "1");
        }
        for (String word : List.of("miles", "rest", "sung", "judged", "height")) {
            form(LAW, "", word, "1", "2");
        }

        says(TERMS, "(how much, PER)");
        HomeGround x = told(null, "known 9;miles 1 2;rest 3 4;sung 5 6;judged 7 8;height 10 11;", null);
        int[] want = {9, NONE, 1, 2, 3, 4, 5, 6, 7, 8, 10, 11};
        for (int part = 0; part < 6; part++) {
            is("how much of " + part, x.law(0, 10 + part), want[2 * part]);
            is("PER of " + part, x.law(0, 20 + part), want[2 * part + 1]);
        }
    }

    private static void planForm() {
        says(TERMS, "{('day' NUMBER | 'people' | 'empty' | 'soft' | 'strict' | 'at' NUMBER | 'game' NUMBER NUMBER) ';'}");
        good(PLAN, "");
        for (String word : List.of("day", "at")) {
            form(PLAN, "", word, "1");
        }
        for (String word : List.of("people", "empty", "soft", "strict")) {
            form(PLAN, "", word);
        }
        form(PLAN, "", "game", "1", "2");
    }

    private static void later() {
        says(TERMS, "Later ones strike, but grounds, sides, games, which are further ones");
        HomeGround x = told(times(2, "ground 1 1 1;") + "side 0 5;side 0 5;miles 0 1 7;miles 1 0 8;",
            "base 1;base 2;known 3;known 4;miles 5 6;miles 7 8;rest 1 2;rest 3 4;sung 1 2;sung 3 4;judged 1 2;"
            + "judged 3 4;height 1 2;height 3 4;",
            "at 1;at 2;day 1;day 2;soft;strict;empty;people;game 0 1;game 0 1;");
        is("grounds", x.league(0, 0), 2);
        is("sides", x.league(0, 1), 2);
        is("miles", x.miles(0, 0, 1), 8);
        is("base", x.law(0, 0), 2);
        is("known", x.law(0, 10), 4);
        is("miles", x.law(0, 11), 7);
        is("miles by", x.law(0, 21), 8);
        for (int part = 2; part < 6; part++) {
            is("part " + part, x.law(0, 10 + part), 3);
            is("by", x.law(0, 20 + part), 4);
        }
        is("games", x.plan(0, NONE, 0), 2);
        int[] want = {0, 1, 2, 1, 0, 2};
        for (int what = 0; what < 6; what++) {
            is("game 0, " + what, x.plan(0, 0, what), want[what]);
        }
    }

    // ---- "Terms" 1: FAULTS ----

    private static void places() {
        says(TERMS, "with places (a token's first byte; the end's)");
        fault(LAW, "  base  101  ;", 2, 8);
        fault(LAW, "  base  word  ;", 1, 8);
        fault(LAW, "  base  12345  ;", 1, 8);
        fault(PLAN, FORTY + "\n game  0 1;", 3, 362);
        fault(LAW, "base", 1, 4);
        fault(LAW, "base  \n", 1, 7);
        fault(LAW, " ".repeat(496) + "base", 1, 500);
        fault(LAW, " ".repeat(490) + "base      ", 1, 500);

        says(TERMS, "1 the first byte or token with which no text goes on");
        fault(LAW, "base 1;x;?", 1, 7);
        fault(LAW, "base 1;?;x", 1, 7);
        fault(LAW, "base 1;7", 1, 7);
        fault(LAW, "base base", 1, 5);
        fault(LAW, "base ;;", 1, 5);
        fault(LAW, "?", 1, 0);
        // a token that could not go on by itself is one with which the text ahead goes on
        fault(LAW, "base 9999", 1, 9);
    }

    private static void whichFault() {
        says(TERMS, "If there is none, the first by place, of one place the least");
        // FAULT 1 goes before the others, wherever they are
        fault(LAW, "base 101;?", 1, 9);
        fault(LAW, "?base 101;", 1, 0);
        fault(LEAGUE, TEN + GROUND + "x", 1, 143);
        fault(LEAGUE, "side 0 1;side", 1, 13);
        // of the others the first by place: 2 or 3
        fault(LAW, "known 51;base 101;", 2, 6);
        fault(LAW, "miles 51 0;", 2, 6);
        fault(LEAGUE, TEN + GROUND + "side 0 51;", 3, 130);
        fault(LEAGUE, TEN + "side 0 51;" + GROUND, 2, 137);
        fault(LEAGUE, TEN + "ground 100 100 1000;", 3, 130);
        fault(LEAGUE, GROUND + EIGHT + "side 9 99;", 3, 85);
        fault(PLAN, FORTY + "game 8 8;", 3, 360);
        fault(PLAN, FORTY + "day 1000;game 0 1;", 2, 364);
    }

    private static void unknownGround() {
        says(TERMS, "a GROUND that no LINE of the LEAGUE ahead told");
        good(LEAGUE, GROUND + "side 0 1;");
        fault(LEAGUE, "side 0 1;" + GROUND, 2, 5);
        fault(LEAGUE, GROUND + "side 1 1;" + GROUND, 2, 18);
        good(LEAGUE, GROUND + GROUND + "miles 0 1 5;");
        fault(LEAGUE, GROUND + "miles 0 1 5;" + GROUND, 2, 21);
        fault(LEAGUE, GROUND + "miles 1 0 5;" + GROUND, 2, 19);
        fault(LEAGUE, TEN + "side 10 1;", 2, 135);
        fault(LEAGUE, TEN + "miles 9 10 1;", 2, 138);
        fault(LEAGUE, TEN + "miles 10 9 1;", 2, 136);
        // grounds of another league are none of this one
        HomeGround x = told(TEN, null, null);
        is("text", Due.text(x, LEAGUE, NONE, "side 0 1;"), NONE);
        is("fault", x.fault(0), 2);
    }

    private static void alike() {
        says(TERMS, "the second one of miles or game as the first");
        fault(LEAGUE, GROUND + GROUND + "miles 0 0 5;", 2, 34);
        fault(LEAGUE, GROUND + GROUND + "miles 1 01 5;", 2, 34);
        good(LEAGUE, GROUND + GROUND + "miles 1 0 5;");
        fault(PLAN, "game 0 0;", 2, 7);
        fault(PLAN, "game 7 0007;", 2, 7);
        good(PLAN, "game 7 6;");
        // of side, rest and height both may be alike
        good(LEAGUE, GROUND + "side 0 0;");
        good(LAW, "rest 5 5;height 6 6;");
    }

    private static void faultyLineCounts() {
        says(TERMS, "a line with such a NUMBER gives its ground, side, game all the same");
        // whatever follows from it comes behind it: the first FAULT stays that NUMBER
        fault(LEAGUE, "ground 100 1 1;side 0 1;", 2, 7);
        fault(LEAGUE, "ground 100 1 1;" + TEN, 2, 7);
        fault(LEAGUE, GROUND + "side 0 51;" + EIGHT, 2, 20);
        fault(PLAN, "game 8 1;" + FORTY, 2, 5);
    }

    private static void tooMany() {
        says(TERMS, "3 an 11th ground, a 9th side, a 41st game, at its first token");
        good(LEAGUE, TEN + EIGHT);
        fault(LEAGUE, TEN + " " + GROUND, 3, 131);
        fault(LEAGUE, TEN + EIGHT + " side 0 1;", 3, 203);
        good(LEAGUE, TEN + EIGHT + "miles 0 1 5;");
        good(PLAN, FORTY + "day 5;soft;at 1;");
        fault(PLAN, FORTY + " game 0 1;", 3, 361);
    }

    private static void threeOfEach() {
        says(TERMS, "LEAGUES, LAWS, PLANS, at most 3 of each, from 0 on");
        HomeGround x = new HomeGround();
        for (int sort = 0; sort < 3; sort++) {
            for (int k = 0; k < 3; k++) {
                is("sort " + sort, Due.text(x, sort, NONE, ""), k);
            }
            is("a fourth of sort " + sort, Due.text(x, sort, NONE, ""), NO_SUCH);
            is("count of sort " + sort, x.count(sort), 3);
        }
        is("league 2", x.league(2, 0), 0);
        is("law 2", x.law(2, 0), 30);
        is("plan 2", x.plan(2, NONE, 0), 0);
    }

    private static void goesBy(String league, String plan, boolean want) {
        is("'" + plan + "' in '" + league + "'", told(league, null, plan).goes(0, 0), want);
    }

    private static void goes() {
        says(TERMS, "A PLAN GOES in a LEAGUE, if that has all its SIDES and GROUNDS");
        String seven = GROUND + times(7, "side 0 1;");
        goesBy(GROUND + EIGHT, "game 7 0;", true);
        goesBy(seven, "game 7 0;", false);
        goesBy(seven, "game 0 7;", false);
        goesBy(seven, "game 6 0;game 0 6;", true);
        goesBy(seven, "game 0 1;game 7 1;game 0 1;", false);
        goesBy(TEN + EIGHT, "at 9;game 0 1;", true);
        goesBy(times(9, GROUND) + EIGHT, "at 9;game 0 1;", false);
        goesBy(GROUND + EIGHT, "at 0;game 0 1;", true);
        goesBy(GROUND + EIGHT, "game 0 1;at 1;game 0 1;game 0 1;", false);
        goesBy("", "", true);
        goesBy("", "game 0 1;", false);

        says(10, "Whether a PLAN GOES in a LEAGUE");
        HomeGround x = told(GROUND + "side 0 1;side 0 1;", null, "game 0 1;");
        Due.text(x, LEAGUE, NONE, GROUND + "side 0 1;");
        is("in the first", x.goes(0, 0), true);
        is("in the second", x.goes(1, 0), false);

        says(10, "False, too, if there is none such (of either)");
        for (int k : new int[] {-1, 2, 3, MIN, MAX}) {
            is("no league " + k, x.goes(k, 0), false);
            is("no plan " + k, x.goes(0, k), false);
        }
        is("no plan 1", x.goes(0, 1), false);
    }

    // ---- promises 1 to 5 ----

    private static void newObject() {
        says(TERMS, "`NONE = -1`: There is none");
        is("NONE", HomeGround.NONE, -1);

        says(1, "No LEAGUES, LAWS, PLANS, NOTED, FILMS; no images");
        HomeGround x = new HomeGround();
        for (int what = 0; what < 4; what++) {
            is("count " + what, x.count(what), 0);
        }
        is("a league", x.league(0, 0), NONE);
        is("a law", x.law(0, 0), NONE);
        is("a plan", x.plan(0, NONE, 0), NO_SUCH);
        is("noted", x.noted(0, 0), NONE);
        is("games", x.sum(0, 59, 0), 0);
        for (int judge = 0; judge < 8; judge++) {
            is("looser of " + judge, x.looser(judge, true), 1);
        }
        for (int k = 0; k < 3; k++) {
            is("again " + k, x.again(k), false);
        }
        is("tape", x.end(0), 0);
        is("tape", x.end(1), NONE);
        is("fault", x.fault(0), 0);
        is("place", x.fault(1), NONE);
    }

    private static int four(String text) {
        return text.charAt(0) << 24 | text.charAt(1) << 16 | text.charAt(2) << 8 | text.charAt(3);
    }

    private static void feed() {
        says(2, "twenty bytes come behind it, of each number the highest first: how many it has");
        HomeGround x = new HomeGround();
        is("twenty", x.feed(four("base"), four(" 12;"), four("know"), four("n 34"), four(";mil")), 20);
        is("forty", x.feed(four("es 5"), four(" 678"), four("9;  "), four("\n \n "), four("    ")), 40);
        is("text", x.text(LAW, NONE), 0);
        is("base", x.law(0, 0), 12);
        is("known", x.law(0, 10), 34);
        is("miles", x.law(0, 11), 5);
        is("miles by", x.law(0, 21), 6789);
        is("behind an empty tape", x.feed(0xffffffff, 0x80000000, 0x7fffffff, 0, -1), 20);

        says(2, "NONE, and nothing comes, if there would be more than 500");
        for (int start : new int[] {480, 481, 499, 500}) {
            HomeGround y = new HomeGround();
            Due.feed(y, " ".repeat(start - 7) + "base 9;");
            is("bytes behind " + start, y.feed(four("know"), four("n 34"), four(";   "), four("    "), four("    ")),
                start == 480 ? 500 : NONE);
            is("one more " + start, y.end(Math.min(500, start + 1)), start == 480 ? 481 : start == 500 ? 500 : NONE);
            y.end(500);
            is("text " + start, y.text(LAW, NONE), start == 480 ? NONE : 0);
            is("place " + start, y.fault(1), start == 480 ? 480 : NONE);
        }
        HomeGround z = new HomeGround();
        Due.feed(z, " ".repeat(480));
        is("the last twenty", z.feed(four("know"), four("n 34"), four(";   "), four("    "), four("   ;")), 500);
        is("and no more", z.feed(four("    "), four("    "), four("    "), four("    "), four("    ")), NONE);
        is("499 without the last", z.end(499), 499);
        is("text", z.text(LAW, NONE), 0);
        is("known", z.law(0, 10), 34);
    }

    private static void end() {
        says(3, "The tape has its first n bytes alone: n");
        HomeGround x = new HomeGround();
        Due.feed(x, "base 12;known 34;");
        is("all", x.end(17), 17);
        is("some", x.end(8), 8);
        is("as many again", x.end(8), 8);
        is("text", x.text(LAW, NONE), 0);
        is("base", x.law(0, 0), 12);
        is("known was cut off", x.law(0, 10), 0);
        Due.feed(x, "base 12;");
        is("none", x.end(0), 0);
        is("nothing left", x.end(1), NONE);
        is("text of nothing", x.text(LAW, NONE), 1);
        is("base at first", x.law(1, 0), 30);

        says(3, "NONE if it has not so many, or n is below 0");
        HomeGround y = new HomeGround();
        Due.feed(y, "base 12;");
        for (int n : new int[] {-1, 9, 20, 500, 501, MIN, MAX}) {
            is("end " + n, y.end(n), NONE);
        }
        is("the tape is as it was", y.text(LAW, NONE), 0);
        is("base", y.law(0, 0), 12);
        is("an empty one", y.end(1), NONE);
    }

    private static void text() {
        says(4, "The tape is taken (and is empty then), as a LEAGUE (sort 0), a LAW (1), a PLAN (2)");
        String[] texts = {GROUND, "base 9;", "game 0 1;"};
        for (int sort = 0; sort < 3; sort++) {
            HomeGround x = new HomeGround();
            is("text " + sort, Due.text(x, sort, NONE, texts[sort]), 0);
            is("the tape is empty", x.end(1), NONE);
            for (int other = 0; other < 4; other++) {
                is("count of " + other, x.count(other), other == sort ? 1 : 0);
            }
        }

        says(4, "a further one (at NONE), or in the place of one: its number");
        for (int sort = 0; sort < 3; sort++) {
            HomeGround x = new HomeGround();
            is("the first", Due.text(x, sort, NONE, ""), 0);
            is("in its place", Due.text(x, sort, 0, texts[sort]), 0);
            is("count", x.count(sort), 1);
            is("the second", Due.text(x, sort, NONE, ""), 1);
            is("the third", Due.text(x, sort, NONE, texts[sort]), 2);
            is("in the second's place", Due.text(x, sort, 1, texts[sort]), 1);
            is("in the third's place", Due.text(x, sort, 2, ""), 2);
            is("count", x.count(sort), 3);
            int[] want = {1, 1, 0};
            for (int k = 0; k < 3; k++) {
                int has = sort == LEAGUE ? x.league(k, 0) : sort == LAW ? (x.law(k, 0) == 9 ? 1 : 0) : x.plan(k, NONE, 0);
                is("number " + k, has, want[k]);
            }
        }

        says(4, "NONE: a FAULT");
        for (int sort = 0; sort < 3; sort++) {
            HomeGround x = new HomeGround();
            Due.text(x, sort, NONE, texts[sort]);
            is("a further one", Due.text(x, sort, NONE, texts[sort] + "?"), NONE);
            is("the tape is empty", x.end(1), NONE);
            is("count", x.count(sort), 1);
            is("in the place of one", Due.text(x, sort, 0, "?"), NONE);
            is("the tape is empty", x.end(1), NONE);
            is("count", x.count(sort), 1);
            int has = sort == LEAGUE ? x.league(0, 30) : sort == LAW ? x.law(0, 0) : x.plan(0, 0, 1);
            is("it is as it was", has, sort == LEAGUE ? 3 : sort == LAW ? 9 : 1);
            is("a further one is the second", Due.text(x, sort, NONE, ""), 1);
        }
    }

    private static void textRefused() {
        says(4, "-2: there is none such, there are 3, or no such sort (the tape is empty then, too; no text is read, FAULT 0)");
        for (int sort = 0; sort < 3; sort++) {
            for (int many = 0; many <= 3; many++) {
                HomeGround x = new HomeGround();
                for (int k = 0; k < many; k++) {
                    Due.text(x, sort, NONE, "");
                }
                for (int at : new int[] {-2, many, many + 1, 3, 4, MIN, MAX}) {
                    refused(x, sort, at, sort, many);
                }
                if (many == 3) {
                    refused(x, sort, NONE, sort, many);
                }
            }
        }
        HomeGround x = new HomeGround();
        for (int sort = 0; sort < 3; sort++) {
            Due.text(x, sort, NONE, "");
        }
        for (int sort : new int[] {-1, 3, 4, MIN, MAX}) {
            refused(x, sort, NONE, LAW, 1);
            refused(x, sort, 0, LAW, 1);
        }
    }

    private static void refused(HomeGround x, int sort, int at, int counted, int many) {
        String call = "text(" + sort + ", " + at + ") ";
        x.end(0);
        // with a FAULT ahead, so that it is seen to go
        is(call + "ahead", Due.text(x, LAW, x.count(LAW) > 0 ? 0 : NONE, "?"), NONE);
        is(call + "ahead", x.fault(0), 1);
        is(call, Due.text(x, sort, at, "x?"), NO_SUCH);
        is(call + "fault", x.fault(0), 0);
        is(call + "place", x.fault(1), NONE);
        is(call + "tape", x.end(1), NONE);
        is(call + "count", x.count(counted), many);
    }

    private static void fault() {
        says(5, "Of the latest text(), what 0: the FAULT, 0 without, 1: its place, NONE without");
        HomeGround x = new HomeGround();
        is("without", x.fault(0), 0);
        is("without", x.fault(1), NONE);
        Due.text(x, LAW, NONE, " known 51;");
        is("a NUMBER", x.fault(0), 2);
        is("its place", x.fault(1), 7);
        Due.feed(x, "base 1;");
        x.end(3);
        x.law(0, 0);
        is("it stays", x.fault(0), 2);
        is("its place stays", x.fault(1), 7);
        is("text", x.text(LAW, NONE), NONE);
        is("the latest", x.fault(0), 1);
        is("its place", x.fault(1), 0);
        is("text", Due.text(x, PLAN, NONE, FORTY + "game 1 0;"), NONE);
        is("the latest", x.fault(0), 3);
        is("its place", x.fault(1), 360);
        is("text", Due.text(x, LEAGUE, NONE, GROUND), 0);
        is("without any more", x.fault(0), 0);
        is("without any more", x.fault(1), NONE);

        says(5, "NONE for another what");
        for (int what : new int[] {-1, 2, 3, MIN, MAX}) {
            is("what " + what, x.fault(what), NONE);
        }
        Due.text(x, LAW, NONE, "?");
        for (int what : new int[] {-1, 2, 3, MIN, MAX}) {
            is("with a fault, what " + what, x.fault(what), NONE);
        }
    }

    // ---- promises 6 to 9 ----

    private static void league() {
        says(6, "what 0: GROUNDS, 1: SIDES, 10 + g, 20 + g, 30 + g: HEIGHT, TRACK, CROWD of GROUND g, 40 + s, 50 + s");
        StringBuilder text = new StringBuilder();
        for (int g = 0; g < 10; g++) {
            text.append("ground ").append(g).append(' ').append(10 + g).append(' ').append(100 + g).append(';');
        }
        for (int s = 0; s < 8; s++) {
            text.append("side ").append(9 - s).append(' ').append(20 + s).append(';');
        }
        HomeGround x = told(text.toString(), null, null);
        Due.text(x, LEAGUE, NONE, "ground 1 1 1;ground 1 1 1;side 0 1;");
        is("grounds", x.league(0, 0), 10);
        is("sides", x.league(0, 1), 8);
        for (int g = 0; g < 10; g++) {
            is("height of " + g, x.league(0, 10 + g), g);
            is("track of " + g, x.league(0, 20 + g), 10 + g);
            is("crowd of " + g, x.league(0, 30 + g), 100 + g);
        }
        for (int s = 0; s < 8; s++) {
            is("ground of side " + s, x.league(0, 40 + s), 9 - s);
            is("strength of side " + s, x.league(0, 50 + s), 20 + s);
        }

        says(6, "NONE: there is none such, or for another what");
        for (int what : new int[] {-1, 2, 9, 48, 49, 58, 59, 60, 70, MIN, MAX}) {
            is("what " + what, x.league(0, what), NONE);
        }
        // of two grounds and one side the next ones are none
        for (int what : new int[] {12, 19, 22, 29, 32, 39, 41, 47, 51, 57}) {
            is("of a small one, what " + what, x.league(1, what), NONE);
        }
        for (int what : new int[] {11, 21, 31, 50}) {
            is("of a small one, what " + what, x.league(1, what), 1);
        }
        is("ground of its side", x.league(1, 40), 0);
        HomeGround y = told(TEN, null, null);
        Due.text(y, LEAGUE, NONE, "");
        for (int what = 10; what < 60; what++) {
            is("without sides, what " + what, y.league(0, what) >= 0, what < 40);
            is("without grounds, what " + what, y.league(1, what), NONE);
        }
        for (int k : new int[] {-1, 2, 3, MIN, MAX}) {
            for (int what : new int[] {0, 1, 10, 40, 50}) {
                is("league " + k, x.league(k, what), NONE);
            }
        }
    }

    private static void milesAsked() {
        says(7, "MILES between two GROUNDS (0 of one)");
        HomeGround x = told(TEN + "miles 0 9 7;miles 9 3 8;", null, null);
        for (int g = 0; g < 10; g++) {
            is("of one, " + g, x.miles(0, g, g), 0);
        }
        is("0 to 9", x.miles(0, 0, 9), 7);
        is("9 to 0", x.miles(0, 9, 0), 7);
        is("3 to 9", x.miles(0, 3, 9), 8);
        is("9 to 3", x.miles(0, 9, 3), 8);
        is("0 to 3", x.miles(0, 0, 3), 0);

        says(7, "NONE: there is none such (of any)");
        Due.text(x, LEAGUE, NONE, GROUND);
        for (int k : new int[] {-1, 10, 11, 90, 429496730, MIN, MAX}) {
            is("from " + k, x.miles(0, k, 0), NONE);
            is("to " + k, x.miles(0, 0, k), NONE);
            is("of one, " + k, x.miles(0, k, k), NONE);
        }
        is("from 1 of one ground", x.miles(1, 1, 0), NONE);
        is("to 1 of one ground", x.miles(1, 0, 1), NONE);
        is("of one ground", x.miles(1, 0, 0), 0);
        for (int k : new int[] {-1, 2, 3, MIN, MAX}) {
            is("league " + k, x.miles(k, 0, 0), NONE);
        }
    }

    private static void law() {
        says(8, "what 0: BASE, 10 + k: how much of PART k, 20 + k: its PER (k from 1 on)");
        HomeGround x = told(null, "base 77;known 1;miles 2 12;rest 3 13;sung 4 14;judged 5 15;height 6 16;", null);
        is("base", x.law(0, 0), 77);
        for (int k = 0; k < 6; k++) {
            is("how much of " + k, x.law(0, 10 + k), k + 1);
            is("PER of " + k, x.law(0, 20 + k), k == 0 ? NONE : 11 + k);
        }

        says(8, "NONE: there is none such, or for another what");
        for (int what : new int[] {-1, 1, 2, 9, 16, 19, 20, 26, 27, 30, MIN, MAX}) {
            is("what " + what, x.law(0, what), NONE);
        }
        for (int k : new int[] {-1, 1, 2, 3, MIN, MAX}) {
            for (int what : new int[] {0, 10, 15, 21, 25}) {
                is("law " + k, x.law(k, what), NONE);
            }
        }
    }

    private static void plan() {
        says(9, "Of a PLAN how many GAMES (game NONE, what 0); of a GAME, what 0: home, 1: guest, 2: DAY, 3: 1 with PEOPLE");
        HomeGround x = told(null, null, "day 3;game 4 5;empty;soft;at 2;day 9;game 6 7;");
        is("games", x.plan(0, NONE, 0), 2);
        int[][] want = {{4, 5, 3, 1, 0, NONE}, {6, 7, 9, 0, 1, 2}};
        for (int game = 0; game < 2; game++) {
            for (int what = 0; what < 6; what++) {
                is("game " + game + ", " + what, x.plan(0, game, what), want[game][what]);
            }
        }
        is("of an empty plan", told(null, null, "").plan(0, NONE, 0), 0);

        says(9, "-2: there is none such (of any), or for another what");
        for (int what : new int[] {-1, 6, 7, MIN, MAX}) {
            is("what " + what, x.plan(0, 0, what), NO_SUCH);
        }
        for (int what : new int[] {-1, 1, 2, 5, 6, MIN, MAX}) {
            is("of all, what " + what, x.plan(0, NONE, what), NO_SUCH);
        }
        // six times 715827883 comes round to 2
        for (int game : new int[] {-2, 2, 39, 40, 715827883, -715827882, MIN, MAX}) {
            is("game " + game, x.plan(0, game, 0), NO_SUCH);
        }
        for (int k : new int[] {-1, 1, 2, 3, MIN, MAX}) {
            is("plan " + k, x.plan(k, 0, 0), NO_SUCH);
            is("all of plan " + k, x.plan(k, NONE, 0), NO_SUCH);
        }
        Due.text(x, PLAN, NONE, FORTY);
        is("game 39", x.plan(1, 39, 1), 1);
        is("game 40", x.plan(1, 40, 1), NO_SUCH);
    }
}
