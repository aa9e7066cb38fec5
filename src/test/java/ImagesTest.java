/** Promises 45 to 47: counts and images. */
public final class ImagesTest {
    private static final int NONE = HomeGround.NONE;
    private static final Due DUE = new Due();

    public static void main(String[] args) {
        counts();
        whole();
        apart();
        DUE.end();
    }

    /** Promise 45. */
    private static void counts() {
        HomeGround x = new HomeGround();
        Due.text(x, 0, NONE, "");
        Due.text(x, 1, NONE, "");
        Due.text(x, 1, NONE, "");
        Due.text(x, 2, NONE, "");
        Due.text(x, 2, NONE, "");
        Due.text(x, 2, NONE, "");
        Due.text(x, 0, NONE, "?");
        for (int k = 0; k < 4; k++) {
            x.note(0, 1, 0, 0, 0, 0, 0, 0);
        }
        for (int what = 0; what < 4; what++) {
            DUE.is("count " + what, x.count(what), what + 1);
        }
        for (int what : new int[] {-1, 4, Integer.MAX_VALUE, Integer.MIN_VALUE}) {
            DUE.is("count " + what, x.count(what), -2);
        }
    }

    private static void fill(HomeGround x, int k) {
        x.end(0);
        Due.text(x, 0, x.count(0) == 0 ? NONE : 0, "ground " + k + " 2 3;ground 1 2 3;side 0 " + k + ";side 1 5;miles 0 1 " + k + ";");
        Due.text(x, 1, x.count(1) == 0 ? NONE : 0, "base " + k + ";known " + k + ";");
        Due.text(x, 2, x.count(2) == 0 ? NONE : 0, "day " + k + ";game 0 1;");
        x.note(0, 1, k, 10 * (k % 10), 0, 0, k, 1);
        x.films(k % 8, true, k % 31, 0);
        x.films(k % 8, false, 1, 0);
        Due.text(x, 1, NONE, "                    ".substring(0, k % 20) + "?");
        Due.feed(x, "  ".repeat(k % 50));
    }

    private static void is(HomeGround x, int k, int notes) {
        String call = "filled by " + k + ": ";
        DUE.is(call + "height", x.league(0, 10), k);
        DUE.is(call + "strength", x.league(0, 50), k);
        DUE.is(call + "miles", x.miles(0, 1, 0), k);
        DUE.is(call + "base", x.law(0, 0), k);
        DUE.is(call + "known", x.law(0, 10), k);
        DUE.is(call + "day", x.plan(0, 0, 2), k);
        DUE.is(call + "notes", x.count(3), notes);
        DUE.is(call + "year", x.noted(notes - 1, 2), k);
        DUE.is(call + "goals", x.noted(notes - 1, 3), k % 10);
        DUE.is(call + "loud", x.noted(notes - 1, 8), k);
        DUE.is(call + "behind", x.noted(notes, 8), NONE);
        DUE.is(call + "films", x.looser(k % 8, true), k % 31 + 1);
        DUE.is(call + "fault", x.fault(0), 1);
        DUE.is(call + "place", x.fault(1), k % 20);
        DUE.is(call + "tape", x.end(2 * (k % 50) + 1), NONE);
        DUE.is(call + "tape", x.end(2 * (k % 50)), 2 * (k % 50));
    }

    /** Promises 46 and 47: all that is told comes again, as often as it is asked for. */
    private static void whole() {
        HomeGround x = new HomeGround();
        for (int k : new int[] {-1, 3, Integer.MAX_VALUE, Integer.MIN_VALUE}) {
            DUE.is("image " + k, x.image(k), false);
            DUE.is("again " + k, x.again(k), false);
        }
        for (int k = 0; k < 3; k++) {
            DUE.is("none yet " + k, x.again(k), false);
        }
        DUE.is("image of nothing", x.image(2), true);
        DUE.is("again without image", x.again(0), false);
        fill(x, 7);
        DUE.is("image 0", x.image(0), true);
        is(x, 7, 1);
        fill(x, 18);
        DUE.is("image 1", x.image(1), true);
        fill(x, 29);
        is(x, 29, 3);
        DUE.is("again 0", x.again(0), true);
        is(x, 7, 1);
        DUE.is("other films are gone", x.looser(2, true), 1);
        DUE.is("again 1", x.again(1), true);
        is(x, 18, 2);
        DUE.is("again 1", x.again(1), true);
        fill(x, 34);
        is(x, 34, 3);
        DUE.is("again 1", x.again(1), true);
        is(x, 18, 2);
        DUE.is("the first note", x.noted(0, 2), 7);
        fill(x, 3);
        DUE.is("image 1 anew", x.image(1), true);
        fill(x, 4);
        DUE.is("again 1", x.again(1), true);
        is(x, 3, 3);
        DUE.is("again 0", x.again(0), true);
        is(x, 7, 1);
        DUE.is("again 2", x.again(2), true);
        for (int what = 0; what < 4; what++) {
            DUE.is("nothing", x.count(what), 0);
        }
        DUE.is("nothing", x.looser(7, true), 1);
        DUE.is("no fault", x.fault(0), 0);
        DUE.is("no place", x.fault(1), NONE);
        DUE.is("no tape", x.end(1), NONE);
        DUE.is("no league", x.league(0, 0), NONE);
        DUE.is("no law", x.law(0, 0), NONE);
        DUE.is("no plan", x.plan(0, NONE, 0), -2);
        DUE.is("no note", x.noted(0, 0), NONE);
        DUE.is("images stay", x.again(1), true);
        is(x, 3, 3);
        x.again(2);
        DUE.is("nothing is told anew", Due.text(x, 1, NONE, "base 9;"), 0);
        DUE.is("nothing is noted anew", x.note(0, 1, 0, 0, 0, 0, 0, 0), 0);
    }

    /** The bytes on the tape come again, too, and objects have nothing of one another. */
    private static void apart() {
        HomeGround x = new HomeGround();
        HomeGround y = new HomeGround();
        Due.feed(x, "base 7;");
        x.image(0);
        Due.text(x, 1, NONE, "known 8;known 9;");
        DUE.is("again", x.again(0), true);
        DUE.is("other object", y.again(0), false);
        DUE.is("other object", y.count(1), 0);
        DUE.is("text", x.text(1, NONE), 0);
        DUE.is("base", x.law(0, 0), 7);
        DUE.is("known", x.law(0, 10), 0);
        Due.text(y, 1, NONE, "base 8;");
        DUE.is("base stays", x.law(0, 0), 7);
        Due.feed(y, "base 9;");
        y.image(0);
        y.end(5);
        y.again(0);
        DUE.is("what was cut off is there again", y.text(1, NONE), 1);
        DUE.is("base", y.law(1, 0), 9);
    }
}
