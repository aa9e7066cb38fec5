/** What the tests of the document's sentences have in common. */
abstract class Bounds {
    static final int NONE = HomeGround.NONE;
    static final int NO_SUCH = -2;
    static final int NO_SHARE = -1000000;
    static final long NO_LONG = -1000000000000000L;
    static final long LEAST_LONG = Long.MIN_VALUE;
    static final int TERMS = 0;
    static final int MIN = Integer.MIN_VALUE;
    static final int MAX = Integer.MAX_VALUE;
    static final int LEAGUE = 0;
    static final int LAW = 1;
    static final int PLAN = 2;
    static final int NOTES = 3;

    static final Due DUE = new Due();
    static final Document DOCUMENT = new Document();
    private static String saying = "";

    /** What follows is a test of what a promise (the "Terms": 0) says in these words. */
    static void says(int promise, String words) {
        saying = "[" + promise + ": " + words + "] ";
        DUE.is(saying + "in the document", DOCUMENT.name(promise, words), true);
    }

    static void is(String call, long got, long want) {
        DUE.is(saying + call, got, want);
    }

    static void is(String call, boolean got, boolean want) {
        DUE.is(saying + call, got, want);
    }

    static void share(String call, long over, long under, long wantOver, long wantUnder) {
        DUE.share(saying + call, over, under, wantOver, wantUnder);
    }

    static String times(int many, String text) {
        return text.repeat(many);
    }

    /** A text that can be: it is a further one, and no FAULT. */
    static void good(int sort, String text) {
        fault(sort, text, 0, NONE);
    }

    /** A further text on a new object, and its FAULT. */
    static void fault(int sort, String text, int fault, int place) {
        HomeGround x = new HomeGround();
        String call = "sort " + sort + " '" + text + "' ";
        is(call + "text", Due.text(x, sort, NONE, text), fault == 0 ? 0 : NONE);
        is(call + "fault", x.fault(0), fault);
        is(call + "place", x.fault(1), place);
        is(call + "count", x.count(sort), fault == 0 ? 1 : 0);
    }

    /** A NUMBER, # in the text, can be the least and the most, but none beyond them. */
    static void range(int sort, String text, int least, int most) {
        int at = text.indexOf('#');
        good(sort, text.replace("#", "" + least));
        good(sort, text.replace("#", "" + most));
        // a number of five digits is no token at all
        fault(sort, text.replace("#", "" + (most + 1)), most == 9999 ? 1 : 2, at);
        if (least > 0) {
            fault(sort, text.replace("#", "" + (least - 1)), 2, at);
        }
    }

    /** An object with one LEAGUE, LAW and PLAN; null: without. */
    static HomeGround told(String league, String law, String plan) {
        HomeGround x = new HomeGround();
        String[] texts = {league, law, plan};
        for (int sort = 0; sort < 3; sort++) {
            if (texts[sort] != null) {
                DUE.is("told '" + texts[sort] + "'", Due.text(x, sort, NONE, texts[sort]), 0);
            }
        }
        return x;
    }

    static int[] n(int... numbers) {
        return numbers;
    }

    /** An object with GAMES that are NOTED: home, guest, YEAR, goals, CARDS, MINUTES, LOUD, JUDGE (0 if left out). */
    static HomeGround noted(int[]... games) {
        HomeGround x = new HomeGround();
        for (int k = 0; k < games.length; k++) {
            DUE.is("note " + k, note(x, games[k]), k);
        }
        return x;
    }

    static int note(HomeGround x, int... game) {
        int[] n = java.util.Arrays.copyOf(game, 8);
        return x.note(n[0], n[1], n[2], n[3], n[4], n[5], n[6], n[7]);
    }
}
