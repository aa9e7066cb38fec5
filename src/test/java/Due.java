/** Compares answers with what is due, and feeds texts to a tape. */
final class Due {
    private int asked = 0;
    private int wrong = 0;

    void is(String call, long got, long want) {
        asked++;
        if (got != want) {
            wrong++;
            System.out.println(call + " answered " + got + ", due is " + want);
        }
    }

    void is(String call, boolean got, boolean want) {
        is(call, got ? 1 : 0, want ? 1 : 0);
    }

    /** A fraction, told by one call for above the line and one for below it. */
    void share(String call, long over, long under, long wantOver, long wantUnder) {
        is(call + " above the line", over, wantOver);
        is(call + " below the line", under, wantUnder);
    }

    void end() {
        System.out.println(asked + " answers, " + wrong + " not as due");
        if (wrong != 0) {
            System.exit(1);
        }
    }

    /** Puts a text on an empty tape. */
    static void feed(HomeGround x, String text) {
        for (int at = 0; at < text.length(); at += 20) {
            x.feed(four(text, at), four(text, at + 4), four(text, at + 8), four(text, at + 12), four(text, at + 16));
        }
        x.end(text.length());
    }

    private static int four(String text, int at) {
        int four = 0;
        for (int i = at; i < at + 4; i++) {
            four = four << 8 | (i < text.length() ? text.charAt(i) & 255 : 0);
        }
        return four;
    }

    static int text(HomeGround x, int sort, int at, String text) {
        feed(x, text);
        return x.text(sort, at);
    }

    /** A further league, law or plan of an object of its own: the FAULT it has. */
    void fault(int sort, String text, int fault, int place) {
        HomeGround x = new HomeGround();
        String call = "sort " + sort + " '" + text + "'";
        is(call + " text", text(x, sort, HomeGround.NONE, text), fault == 0 ? 0 : HomeGround.NONE);
        is(call + " fault", x.fault(0), fault);
        is(call + " place", x.fault(1), place);
        is(call + " count", x.count(sort), fault == 0 ? 1 : 0);
    }
}
