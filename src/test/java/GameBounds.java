/** "Terms" 2 and promises 11 to 13: what a GAME is worth, its CHANCES, and SEASONS. */
final class GameBounds extends Bounds {
    private static final long WHOLE = 1000000000000L;
    /** Two sides, each on a ground of its own, 100 MILES apart. */
    private static final String TWO = "ground 0 0 0;ground 0 0 0;side 0 0;side 1 0;miles 0 1 100;";

    private GameBounds() { }

    static void all() {
        cut();
        loud();
        most();
        known();
        miles();
        rest();
        restAhead();
        sungAndJudged();
        height();
        edge();
        pAndQ();
        shots();
        chances();
        hope();
        worth();
        chance();
        drawn();
        goals();
        cards();
        minutes();
        noted();
        play();
        playRefused();
    }

    private static int worth(String league, String law, String plan, int part) {
        HomeGround x = told(league, law, plan);
        return x.worth(0, 0, 0, x.plan(0, NONE, 0) - 1, part);
    }

    // ---- "Terms" 2: PARTS ----

    private static void cut() {
        says(TERMS, "Of a GAME in a LEAGUE by a LAW (all divisions cut)");
        String league = "ground 7 2 299;ground 0 0 0;side 0 0;side 1 0;miles 0 1 199;";
        is("199 miles by 100", worth(league, "miles 1 100;", "game 0 1;", 1), 1);
        is("199 miles by 67", worth(league, "miles 1 67;", "game 0 1;", 1), 2);
        is("a crowd of 299 by 3", worth(league, "", "game 0 1;", 7), 99);
        is("99 loud by 50", worth(league, "sung 1 50;", "game 0 1;", 3), 1);
        is("99 loud by 50, soft", worth(league, "judged 1 50;", "soft;game 0 1;", 4), 1);
        is("height 7 by 4", worth(league, "height 1 4;", "game 0 1;", 5), 1);
    }

    private static int loud(int track, int crowd, String plan) {
        return worth("ground 0 " + track + " " + crowd + ";ground 0 0 7;side 0 0;side 1 0;", "", plan, 7);
    }

    private static void loud() {
        says(TERMS, "LOUD: 0 without PEOPLE, else CROWD of g by (1 + its TRACK)");
        is("no track", loud(0, 999, "game 0 1;"), 999);
        is("no crowd", loud(0, 0, "game 0 1;"), 0);
        is("a crowd as the track", loud(99, 99, "game 0 1;"), 0);
        is("a crowd of one more", loud(99, 100, "game 0 1;"), 1);
        is("the greatest of both", loud(99, 999, "game 0 1;"), 9);
        is("by two", loud(1, 999, "game 0 1;"), 499);
        is("without people", loud(0, 999, "empty;game 0 1;"), 0);
        is("with people again", loud(0, 999, "empty;people;game 0 1;"), 999);
        is("of another ground", loud(0, 999, "at 1;game 0 1;"), 7);
        is("at the other side's", loud(0, 999, "game 1 0;"), 7);
    }

    private static void most() {
        says(TERMS, "A PART is how much by so many TIMES, together 50 at most");
        // the part, a law's word, and a league and plan in which there are 99 times
        String league = "ground 99 0 99;ground 0 0 0;side 0 0;side 1 0;miles 0 1 99;";
        String[] words = {"", "miles", "", "sung", "judged", "height"};
        for (int part : new int[] {1, 3, 4, 5}) {
            String word = words[part];
            is(word + " 0 by 99", worth(league, word + " 0 1;", "soft;game 0 1;", part), 0);
            is(word + " 1 by 49", worth(league, word + " 1 2;", "soft;game 0 1;", part), 49);
            is(word + " 7 by 7", worth(league, word + " 7 14;", "soft;game 0 1;", part), 49);
            is(word + " 25 by 2", worth(league, word + " 25 49;", "soft;game 0 1;", part), 50);
            is(word + " 17 by 3", worth(league, word + " 17 33;", "soft;game 0 1;", part), 50);
            is(word + " 1 by 99", worth(league, word + " 1 1;", "soft;game 0 1;", part), 50);
            is(word + " 50 by 1", worth(league, word + " 50 99;", "soft;game 0 1;", part), 50);
            is(word + " 50 by 2", worth(league, word + " 50 49;", "soft;game 0 1;", part), 50);
            is(word + " 50 by 99", worth(league, word + " 50 1;", "soft;game 0 1;", part), 50);
        }
        String far = "ground 0 0 999;ground 0 0 0;side 0 0;side 1 0;miles 0 1 9999;";
        is("50 by 9999", worth(far, "miles 50 1;", "game 0 1;", 1), 50);
        is("50 by 999", worth(far, "sung 50 1;", "game 0 1;", 3), 50);
    }

    private static void known() {
        says(TERMS, "KNOWN once, if g is the home SIDE's own one and not f");
        is("at home", worth(TWO, "known 50;", "game 0 1;", 0), 50);
        is("1 at home", worth(TWO, "known 7;", "game 1 0;", 0), 7);
        is("at the guest's", worth(TWO, "known 50;", "at 1;game 0 1;", 0), 0);
        is("at home, told", worth(TWO, "known 50;", "at 0;game 0 1;", 0), 50);
        is("at a third", worth(TWO + "ground 0 0 0;", "known 50;", "at 2;game 0 1;", 0), 0);
        String one = "ground 0 0 0;ground 0 0 0;side 0 0;side 0 0;";
        is("both at home", worth(one, "known 50;", "game 0 1;", 0), 0);
        is("both elsewhere", worth(one, "known 50;", "at 1;game 0 1;", 0), 0);
        is("0 much", worth(TWO, "known 0;", "game 0 1;", 0), 0);
    }

    private static void miles() {
        says(TERMS, "MILES: those from f to g by PER");
        is("below PER", worth(TWO, "miles 5 101;", "game 0 1;", 1), 0);
        is("at PER", worth(TWO, "miles 5 100;", "game 0 1;", 1), 5);
        is("below twice PER", worth(TWO, "miles 5 51;", "game 0 1;", 1), 5);
        is("at twice PER", worth(TWO, "miles 5 50;", "game 0 1;", 1), 10);
        is("the other way", worth(TWO, "miles 5 100;", "game 1 0;", 1), 5);
        is("at the guest's", worth(TWO, "miles 5 1;", "at 1;game 0 1;", 1), 0);
        String three = TWO + "ground 0 0 0;miles 1 2 7;miles 0 2 30;";
        is("to a third, from the guest's", worth(three, "miles 1 1;", "at 2;game 0 1;", 1), 7);
        is("to a third, from the other's", worth(three, "miles 1 1;", "at 2;game 1 0;", 1), 30);
        is("without people, strict", worth(TWO, "miles 5 100;", "empty;game 0 1;", 1), 5);
    }

    private static int rest(String law, String plan) {
        return worth("ground 0 0 0;side 0 0;side 0 0;side 0 0;side 0 0;", law, plan, 2);
    }

    private static void rest() {
        says(TERMS, "REST: once, if the guest's REST is below PER and the home SIDE's is not");
        // 0 at home rests since day 10, guest 1 since day 14; they meet on day 20: 10 and 6
        String plan = "day 10;game 0 2;day 14;game 3 1;day 20;game 0 1;";
        int[] want = {0, 0, 0, 0, 0, 0, 9, 9, 9, 9, 0, 0};
        for (int per = 1; per <= 12; per++) {
            is("10 and 6 by " + per, rest("rest 9 " + per + ";", plan), want[per - 1]);
        }
        // the other way round the home side is the tired one
        String other = "day 10;game 0 2;day 14;game 3 1;day 20;game 1 0;";
        for (int per = 1; per <= 12; per++) {
            is("6 and 10 by " + per, rest("rest 9 " + per + ";", other), 0);
        }
        String even = "day 10;game 0 1;day 15;game 0 1;";
        for (int per : new int[] {4, 5, 6, 30}) {
            is("5 and 5 by " + per, rest("rest 9 " + per + ";", even), 0);
        }
        String sameDay = "day 3;game 0 1;game 2 1;";
        is("none since the same day", rest("rest 9 1;", sameDay), 9);
        is("at most 50", rest("rest 50 1;", sameDay), 50);
        is("0 much", rest("rest 0 1;", sameDay), 0);
    }

    private static void restAhead() {
        says(TERMS, "a SIDE's REST is DAY less that of its GAME ahead in the PLAN (30 without one)");
        is("both without one", rest("rest 9 30;", "day 900;game 0 1;"), 0);
        is("both without one, on day 0", rest("rest 9 30;", "game 0 1;"), 0);
        // the home side has none ahead: its 30 is not below the greatest PER
        is("guest 29 by 30", rest("rest 9 30;", "game 2 1;day 29;game 0 1;"), 9);
        is("guest 30 by 30", rest("rest 9 30;", "game 2 1;day 30;game 0 1;"), 0);
        is("guest 29 by 29", rest("rest 9 29;", "game 2 1;day 29;game 0 1;"), 0);
        // the guest has none ahead: its 30 is never below PER
        is("home 999, guest none", rest("rest 9 30;", "game 0 2;day 999;game 0 1;"), 0);
        is("home 999, guest 1", rest("rest 9 30;", "game 0 2;day 998;game 1 2;day 999;game 0 1;"), 9);
        // the latest ahead counts, at home or as guest, not one behind
        is("as guest", rest("rest 9 5;", "game 1 2;day 8;game 2 1;day 10;game 0 1;"), 9);
        is("at home", rest("rest 9 5;", "game 2 1;day 8;game 1 2;day 10;game 0 1;"), 9);
        is("the latest one", rest("rest 9 5;", "day 5;game 1 2;game 1 3;day 9;game 1 3;day 10;game 0 1;"), 9);
        HomeGround x = told("ground 0 0 0;side 0 0;side 0 0;side 0 0;", "rest 9 5;", "game 0 1;day 1;game 2 1;");
        is("the one behind", x.worth(0, 0, 0, 0, 2), 0);
        is("the one ahead", x.worth(0, 0, 0, 1, 2), 9);
    }

    private static void sungAndJudged() {
        String league = "ground 0 1 201;ground 0 0 0;side 0 0;side 1 0;";
        says(TERMS, "SUNG: LOUD by PER");
        is("below PER", worth(league, "sung 9 101;", "game 0 1;", 3), 0);
        is("at PER", worth(league, "sung 9 100;", "game 0 1;", 3), 9);
        is("below twice PER", worth(league, "sung 9 51;", "game 0 1;", 3), 9);
        is("at twice PER", worth(league, "sung 9 50;", "game 0 1;", 3), 18);
        is("without people", worth(league, "sung 9 1;", "empty;game 0 1;", 3), 0);
        is("soft or strict", worth(league, "sung 9 100;", "soft;game 0 1;", 3), 9);

        says(TERMS, "JUDGED: LOUD by PER, if the JUDGE is SOFT");
        is("below PER", worth(league, "judged 9 101;", "soft;game 0 1;", 4), 0);
        is("at PER", worth(league, "judged 9 100;", "soft;game 0 1;", 4), 9);
        is("below twice PER", worth(league, "judged 9 51;", "soft;game 0 1;", 4), 9);
        is("at twice PER", worth(league, "judged 9 50;", "soft;game 0 1;", 4), 18);
        is("strict at first", worth(league, "judged 9 1;", "game 0 1;", 4), 0);
        is("strict again", worth(league, "judged 9 1;", "soft;strict;game 0 1;", 4), 0);
        is("soft without people", worth(league, "judged 9 1;", "soft;empty;game 0 1;", 4), 0);
    }

    private static int height(int here, int guests, int per) {
        return worth("ground " + here + " 0 0;ground " + guests + " 0 0;side 0 0;side 1 0;", "height 1 " + per + ";",
            "game 0 1;", 5);
    }

    private static void height() {
        says(TERMS, "HEIGHT: HEIGHT of g less that of f, 0 at least, by PER");
        is("below PER", height(30, 10, 21), 0);
        is("at PER", height(30, 10, 20), 1);
        is("below twice PER", height(30, 10, 11), 1);
        is("at twice PER", height(30, 10, 10), 2);
        is("as high", height(30, 30, 1), 0);
        is("one higher", height(31, 30, 1), 1);
        is("one lower", height(30, 31, 1), 0);
        is("much lower", height(0, 99, 1), 0);
        is("much higher", height(99, 0, 99), 1);
        is("much higher, by 98", height(99, 1, 98), 1);
        String three = "ground 9 0 0;ground 4 0 0;ground 6 0 0;side 0 0;side 1 0;";
        is("at a third", worth(three, "height 1 1;", "at 2;game 0 1;", 5), 2);
        is("down to a third", worth(three, "height 1 1;", "at 2;game 1 0;", 5), 0);
    }

    private static void edge() {
        says(TERMS, "EDGE: all PARTS together");
        String league = "ground 99 0 999;ground 0 0 0;side 0 0;side 1 0;miles 0 1 9999;";
        String all = "known 50;miles 50 1;rest 50 30;sung 50 1;judged 50 1;height 50 1;";
        // 1 played on the day ahead, 0 never: all six are 50
        String plan = "game 2 1;day 1;soft;game 0 1;";
        is("all of the greatest", worth(league + "side 1 0;", all, plan, 6), 300);
        is("p at most", worth(league + "side 1 0;", "base 0;" + all, plan, 8), 100);
        is("none", worth(league + "side 1 0;", "", plan, 6), 0);
        String each = "known 1;miles 2 9999;rest 4 30;sung 8 999;judged 16 999;height 32 99;";
        is("each once", worth(league + "side 1 0;", each, plan, 6), 63);
    }

    private static int[] pq(int base, int home, int guest, int known) {
        HomeGround x = told("ground 0 0 0;ground 0 0 0;side 0 " + home + ";side 1 " + guest + ";",
            "base " + base + ";known " + known + ";", "game 0 1;");
        return new int[] {x.worth(0, 0, 0, 0, 8), x.worth(0, 0, 0, 0, 9)};
    }

    private static void pq(int base, int home, int guest, int known, int p, int q) {
        int[] have = pq(base, home, guest, known);
        is("p of " + base + " " + home + " " + guest + " " + known, have[0], p);
        is("q of " + base + " " + home + " " + guest + " " + known, have[1], q);
    }

    private static void pAndQ() {
        says(TERMS, "p of the home SIDE is BASE + its STRENGTH - the guest's + EDGE, q of the guest BASE");
        pq(40, 7, 4, 9, 52, 37);
        pq(40, 4, 7, 9, 46, 43);
        pq(40, 50, 50, 0, 40, 40);

        says(TERMS, "both 0 at least, 100 at most");
        pq(0, 0, 0, 0, 0, 0);
        pq(0, 1, 0, 0, 1, 0);
        pq(0, 0, 1, 0, 0, 1);
        pq(0, 0, 50, 0, 0, 50);
        pq(0, 0, 1, 1, 0, 1);
        pq(0, 0, 1, 2, 1, 1);
        pq(100, 0, 0, 0, 100, 100);
        pq(100, 0, 1, 0, 99, 100);
        pq(100, 1, 0, 0, 100, 99);
        pq(99, 0, 0, 1, 100, 99);
        pq(99, 0, 0, 2, 100, 99);
        pq(100, 50, 0, 50, 100, 50);
    }

    // ---- "Terms" 2: CHANCES ----

    /** CHANCES of one GAME: won, as many, lost. */
    private static void chances(int base, int home, int guest, int known, long won, long even, long lost) {
        HomeGround x = told("ground 0 0 0;ground 0 0 0;side 0 " + home + ";side 1 " + guest + ";",
            "base " + base + ";known " + known + ";", "game 0 1;");
        String call = "base " + base + " " + home + " " + guest + " known " + known + " ";
        is(call + "won", x.chance(0, 0, 0, 0, 0), won);
        is(call + "even", x.chance(0, 0, 0, 0, 1), even);
        is(call + "lost", x.chance(0, 0, 0, 0, 2), lost);
        is(call + "together", won + even + lost, WHOLE);
        is(call + "hope", x.chance(0, 0, 0, 0, 3), 3 * won + even);
    }

    private static void shots() {
        says(TERMS, "Each has 3 shots, each goes in by p (q) of 100");
        // p 0, q 0: no goals; p 100, q 100: three each; p 50, q 0: one of two to the third stays without goal
        chances(0, 0, 0, 0, 0, WHOLE, 0);
        chances(100, 0, 0, 0, 0, WHOLE, 0);
        chances(0, 0, 0, 50, 875000000000L, 125000000000L, 0);
        chances(50, 0, 50, 0, 0, 0, WHOLE);
        chances(50, 50, 0, 0, WHOLE, 0, 0);
        // p 100, q 50: as many if all three of the guest's go in
        chances(75, 25, 0, 0, 875000000000L, 125000000000L, 0);
        chances(75, 0, 25, 0, 0, 125000000000L, 875000000000L);
    }

    private static void chances() {
        says(TERMS, "CHANCES: that the home SIDE wins, that both have as many, that the guest wins, in PARTS of 10 to the 12");
        // p 1, q 0: 1 less 0.99 to the third; and the other way round
        chances(0, 1, 0, 0, 29701000000L, 970299000000L, 0);
        chances(0, 0, 1, 0, 0, 970299000000L, 29701000000L);
        // p 100, q 99; p 99, q 100
        chances(100, 1, 0, 0, 29701000000L, 970299000000L, 0);
        chances(100, 0, 1, 0, 0, 970299000000L, 29701000000L);
        // p 50, q 50: 1, 3, 3, 1 of 8 each, 20 of 64 even
        chances(50, 0, 0, 0, 343750000000L, 312500000000L, 343750000000L);
    }

    private static void hope() {
        says(TERMS, "HOPE of a GAME: 3 times the first CHANCE and the second one");
        is("sure", told(TWO, "base 50;known 50;", "game 0 1;").chance(0, 0, 0, 0, 3), 3 * 875000000000L + 125000000000L);
        is("even for sure", told(TWO, "base 0;", "game 0 1;").chance(0, 0, 0, 0, 3), WHOLE);
        HomeGround won = told("ground 0 0 0;side 0 50;side 0 0;", "base 50;", "game 0 1;game 1 0;");
        is("won for sure", won.chance(0, 0, 0, 0, 3), 3 * WHOLE);
        is("lost for sure", won.chance(0, 0, 0, 1, 3), 0);
    }

    // ---- promises 11 and 12 ----

    private static void worth() {
        says(11, "A PART, 0 .. 5, of a GAME, or (part 6) EDGE, (7) LOUD, (8) p, (9) q");
        String league = "ground 99 0 999;ground 0 0 0;side 0 5;side 1 2;side 1 0;miles 0 1 9999;";
        String law = "base 7;known 1;miles 2 9999;rest 3 30;sung 4 999;judged 5 999;height 6 99;";
        HomeGround x = told(league, law, "game 2 1;day 1;soft;game 0 1;");
        int[] want = {1, 2, 3, 4, 5, 6, 21, 999, 31, 4};
        for (int part = 0; part < 10; part++) {
            is("part " + part, x.worth(0, 0, 0, 1, part), want[part]);
        }

        says(11, "NONE: the PLAN does not GO, or there is none such (of any)");
        for (int part : new int[] {-1, 10, 11, MIN, MAX}) {
            is("part " + part, x.worth(0, 0, 0, 1, part), NONE);
        }
        for (int game : new int[] {-1, 2, 3, 40, 715827883, -715827882, MIN, MAX}) {
            is("game " + game, x.worth(0, 0, 0, game, 7), NONE);
        }
        for (int k : new int[] {-1, 1, 2, 3, MIN, MAX}) {
            is("league " + k, x.worth(k, 0, 0, 1, 7), NONE);
            is("law " + k, x.worth(0, k, 0, 1, 7), NONE);
            is("plan " + k, x.worth(0, 0, k, 1, 7), NONE);
        }
        Due.text(x, PLAN, NONE, "game 0 1;game 0 3;");
        Due.text(x, PLAN, NONE, "game 0 1;at 2;game 0 1;");
        is("a side too many", x.worth(0, 0, 1, 0, 7), NONE);
        is("a ground too many", x.worth(0, 0, 2, 0, 7), NONE);
    }

    private static void chance() {
        says(12, "CHANCES, what 0 to 2, HOPE (3)");
        // p 50, q 0
        HomeGround x = told(TWO, "base 0;known 50;", "game 0 1;");
        long[] want = {875000000000L, 125000000000L, 0, 2750000000000L};
        for (int what = 0; what < 4; what++) {
            is("what " + what, x.chance(0, 0, 0, 0, what), want[what]);
        }

        says(12, "NONE: as worth(), or for another what");
        for (int what : new int[] {-1, 4, 5, MIN, MAX}) {
            is("what " + what, x.chance(0, 0, 0, 0, what), NONE);
        }
        for (int game : new int[] {-1, 1, 2, 40, 715827883, -715827882, MIN, MAX}) {
            is("game " + game, x.chance(0, 0, 0, game, 0), NONE);
        }
        for (int k : new int[] {-1, 1, 2, 3, MIN, MAX}) {
            is("league " + k, x.chance(k, 0, 0, 0, 0), NONE);
            is("law " + k, x.chance(0, k, 0, 0, 0), NONE);
            is("plan " + k, x.chance(0, 0, k, 0, 0), NONE);
        }
        Due.text(x, PLAN, NONE, "game 0 1;game 0 2;");
        Due.text(x, PLAN, NONE, "game 0 1;at 2;game 0 1;");
        is("a side too many", x.chance(0, 0, 1, 0, 0), NONE);
        is("a ground too many", x.chance(0, 0, 2, 0, 0), NONE);
    }

    // ---- "Terms" 2: a SEASON ----

    /** The numbers that are drawn, by whole numbers of 64 bits. */
    private static final class Numbers {
        private long x;

        Numbers(int seed) {
            x = seed & 0xffffffffL;
        }

        int below(int n) {
            x = (x * 1103515245L + 12345L) % 4294967296L;
            return (int) (x / 65536 % n);
        }

        int shots(int percent) {
            int in = 0;
            for (int shot = 0; shot < 3; shot++) {
                in += below(100) < percent ? 1 : 0;
            }
            return in;
        }
    }

    private static void drawn() {
        says(TERMS, "x becomes x * 1103515245 + 12345 (of 32 bits), it is x shifted right by 16 without sign, remainder by n");
        // p and q 50; both cards, minutes: of one game, of which a second one goes on where the first ended
        for (int seed : new int[] {0, 1, -1, 2, 65535, 65536, MIN, MAX, MIN + 1, MAX - 1, 123456789, -987654321}) {
            HomeGround x = told(TWO, "base 50;", "game 0 1;game 1 0;");
            is("play by " + seed, x.play(0, 0, 0, seed, 5), 2);
            Numbers numbers = new Numbers(seed);
            for (int game = 0; game < 2; game++) {
                String call = "seed " + seed + " game " + game + " ";
                is(call + "goals", x.noted(game, 3), numbers.shots(50));
                is(call + "goals of the guest", x.noted(game, 4), numbers.shots(50));
                is(call + "cards", x.noted(game, 5), numbers.below(4));
                is(call + "cards of the guest", x.noted(game, 6), numbers.below(4));
                is(call + "minutes", x.noted(game, 7), 1 + numbers.below(3));
            }
        }
        // by hand: of seed 0 x is 12345, 3554416254, 2802067423, 3596950572, 229283573, 3256818826, 1051550459, 3441282840,
        // 2941955441: 0, 54236, 42756, 54885, 3498, 49695, 16045, 52509, 44890
        HomeGround x = told(TWO, "base 37;", "game 0 1;");
        x.play(0, 0, 0, 0, 5);
        int[] want = {0, 1, 5, 2, 0, 1, 1, 2, 0, 0};
        for (int what = 0; what < 10; what++) {
            is("seed 0, noted " + what, x.noted(0, what), want[what]);
        }
    }

    private static void goals() {
        says(TERMS, "three numbers below 100: each below p is a goal of the home SIDE; three, likewise by q, of the guest");
        int met = 0;
        for (int base = 0; base <= 100; base++) {
            HomeGround x = told(TWO, "base " + base + ";", "game 0 1;");
            for (int seed = 0; seed < 60; seed++) {
                x.play(0, 0, 0, seed, seed);
                Numbers numbers = new Numbers(seed);
                met += new Numbers(seed).below(100) == base ? 1 : 0;
                is("base " + base + " seed " + seed + " goals", x.noted(seed, 3), numbers.shots(base));
                is("base " + base + " seed " + seed + " goals of the guest", x.noted(seed, 4), numbers.shots(base));
            }
        }
        is("a number just at p was met", met > 0, true);
        // p 100, q 0: all three, and none
        HomeGround x = told("ground 0 0 0;side 0 50;side 0 0;", "base 50;", "game 0 1;game 1 0;");
        for (int season = 0; season < 40; season++) {
            x.play(0, 0, 0, -season, season);
            is("all three", x.noted(2 * season, 3), 3);
            is("none", x.noted(2 * season, 4), 0);
            is("none at home", x.noted(2 * season + 1, 3), 0);
            is("all three of the guest", x.noted(2 * season + 1, 4), 3);
        }
    }

    private static void cards() {
        says(TERMS, "a number below 4; of the guest: a number below 4, 1 more if JUDGED is above 0");
        String league = "ground 0 0 7;ground 0 0 0;side 0 0;side 1 0;";
        boolean[] met = new boolean[5];
        for (int much = 0; much < 3; much++) {
            HomeGround x = told(league, "judged " + much + " 7;", "soft;game 0 1;strict;game 0 1;soft;empty;game 0 1;");
            for (int season = 0; season < 20; season++) {
                x.play(0, 0, 0, season, season);
                Numbers numbers = new Numbers(season);
                for (int game = 0; game < 3; game++) {
                    numbers.shots(0);
                    numbers.shots(0);
                    String call = "judged " + much + " season " + season + " game " + game + " ";
                    is(call + "cards", x.noted(3 * season + game, 5), numbers.below(4));
                    int more = game == 0 && much > 0 ? 1 : 0;
                    is(call + "cards of the guest", x.noted(3 * season + game, 6), numbers.below(4) + more);
                    met[x.noted(3 * season + game, 6)] = true;
                    numbers.below(3);
                }
            }
        }
        for (int cards = 0; cards < 5; cards++) {
            is("a guest of " + cards + " cards was met", met[cards], true);
        }
        // JUDGED of 0, since LOUD is one below PER
        HomeGround x = told(league, "judged 50 8;", "soft;game 0 1;");
        HomeGround y = told(league, "judged 50 7;", "soft;game 0 1;");
        for (int season = 0; season < 20; season++) {
            x.play(0, 0, 0, season, 0);
            y.play(0, 0, 0, season, 0);
            is("one more just at PER", y.noted(season, 6), x.noted(season, 6) + 1);
        }
    }

    private static void minutes() {
        says(TERMS, "MINUTES: 1 and a number below 3, 2 more if the JUDGE is SOFT and the home SIDE is one goal behind");
        int[] met = new int[7];
        boolean[] metMinutes = new boolean[6];
        for (int soft = 0; soft < 2; soft++) {
            HomeGround x = told(TWO, "base 50;", soft == 1 ? "soft;game 0 1;" : "game 0 1;");
            for (int season = 0; season < 80; season++) {
                x.play(0, 0, 0, season, 0);
                Numbers numbers = new Numbers(season);
                int margin = numbers.shots(50) - numbers.shots(50);
                numbers.below(4);
                numbers.below(4);
                int want = 1 + numbers.below(3) + (soft == 1 && margin == -1 ? 2 : 0);
                is("soft " + soft + " season " + season + " margin " + margin, x.noted(season, 7), want);
                met[margin + 3]++;
                metMinutes[want] = true;
            }
        }
        for (int margin = -2; margin <= 2; margin++) {
            is("a margin of " + margin + " was met", met[margin + 3] > 0, true);
        }
        for (int minutes = 1; minutes <= 5; minutes++) {
            is(minutes + " minutes were met", metMinutes[minutes], true);
        }
    }

    private static void noted() {
        says(TERMS, "They are NOTED, in a YEAR, with LOUD, by JUDGE 1 if SOFT, else 0");
        HomeGround x = told("ground 0 0 999;ground 0 1 9;side 0 0;side 1 0;", "",
            "game 0 1;soft;game 1 0;empty;game 0 1;strict;at 1;people;game 0 1;");
        x.note(6, 7, 1, 0, 0, 0, 0, 0);
        is("play", x.play(0, 0, 0, 4, 58), 4);
        int[][] want = {{0, 1, 58, 999, 0}, {1, 0, 58, 4, 1}, {0, 1, 58, 0, 1}, {0, 1, 58, 4, 0}};
        int[] whats = {0, 1, 2, 8, 9};
        for (int game = 0; game < 4; game++) {
            for (int k = 0; k < 5; k++) {
                is("game " + game + " noted " + whats[k], x.noted(1 + game, whats[k]), want[game][k]);
            }
        }
        HomeGround y = told("ground 0 0 0;" + times(8, "side 0 0;"), "", "game 7 6;game 2 5;game 5 2;game 0 7;");
        is("play", y.play(0, 0, 0, 4, 3), 4);
        int[][] sides = {{7, 6}, {2, 5}, {5, 2}, {0, 7}};
        for (int game = 0; game < 4; game++) {
            is("home of " + game, y.noted(game, 0), sides[game][0]);
            is("guest of " + game, y.noted(game, 1), sides[game][1]);
        }
    }

    // ---- promise 13 ----

    private static void play() {
        says(13, "A SEASON is played and NOTED in a YEAR: how many GAMES");
        HomeGround x = told(TWO, "", "game 0 1;game 1 0;game 0 1;");
        Due.text(x, PLAN, NONE, "");
        is("three games", x.play(0, 0, 0, 1, 0), 3);
        is("noted", x.count(NOTES), 3);
        is("three more", x.play(0, 0, 0, 1, 59), 3);
        is("noted", x.count(NOTES), 6);
        is("the year 0", x.noted(2, 2), 0);
        is("the year 59", x.noted(3, 2), 59);
        is("a plan of none", x.play(0, 0, 1, 1, 5), 0);
        is("noted", x.count(NOTES), 6);
        for (int what = 3; what < 8; what++) {
            is("a season by the same seed, " + what, x.noted(4, what), x.noted(1, what));
        }
    }

    private static void playRefused() {
        says(13, "NONE: as worth(), another YEAR, or there would be more than 80 (nothing is NOTED then)");
        HomeGround x = told(TWO, "", "game 0 1;game 1 0;");
        Due.text(x, PLAN, NONE, "game 0 1;game 0 2;");
        Due.text(x, PLAN, NONE, "game 0 1;at 2;game 0 1;");
        for (int year : new int[] {-1, 60, 61, MIN, MAX}) {
            is("year " + year, x.play(0, 0, 0, 1, year), NONE);
        }
        for (int k : new int[] {-1, 1, 2, 3, MIN, MAX}) {
            is("league " + k, x.play(k, 0, 0, 1, 5), NONE);
            is("law " + k, x.play(0, k, 0, 1, 5), NONE);
        }
        for (int k : new int[] {-1, 1, 2, 3, MIN, MAX}) {
            is("plan " + k, x.play(0, 0, k, 1, 5), NONE);
        }
        is("nothing is noted", x.count(NOTES), 0);
        is("nothing is noted", x.noted(0, 0), NONE);

        for (int have = 77; have <= 80; have++) {
            HomeGround y = told(TWO, "", "game 0 1;game 1 0;");
            Due.text(y, PLAN, NONE, "");
            for (int k = 0; k < have; k++) {
                y.note(2, 3, 5, 0, 0, 0, 0, 0);
            }
            boolean room = have <= 78;
            is("two behind " + have, y.play(0, 0, 0, 1, 5), room ? 2 : NONE);
            is("noted", y.count(NOTES), room ? have + 2 : have);
            is("the next one", y.noted(have, 0), room ? 0 : NONE);
            is("the last one stays", y.noted(have - 1, 0), 2);
            is("none behind " + have, y.play(0, 0, 1, 1, 5), 0);
        }
        HomeGround z = told(TWO, "", times(40, "game 0 1;"));
        is("forty", z.play(0, 0, 0, 1, 5), 40);
        is("forty more", z.play(0, 0, 0, 1, 5), 40);
        is("forty too many", z.play(0, 0, 0, 1, 5), NONE);
        is("noted", z.count(NOTES), 80);
    }
}
