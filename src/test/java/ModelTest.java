import java.util.Random;

/** Runs of calls, always the same ones, answered by the class and by Model. */
public final class ModelTest {
    private static final int RUNS = 5500;
    /** Nothing is promised of an object behind its 512th call; a step takes fewer than 60. */
    private static final int CALLS = 512 - 60;
    private static final Due DUE = new Due();

    private final Random random;
    private final int run;
    private final HomeGround x = new HomeGround();
    private final Model model = new Model();
    private int calls = 0;
    /** Runs differ in how many YEARS, SIDES and LOUD ones there are, so that edges of each are met. */
    private final int years;
    private final int sides;

    private ModelTest(int run) {
        this.run = run;
        random = new Random(run);
        years = 1 + random.nextInt(random.nextBoolean() ? 3 : 60);
        sides = 2 + random.nextInt(7);
    }

    public static void main(String[] args) {
        for (int run = 0; run < RUNS; run++) {
            new ModelTest(run).go();
        }
        DUE.end();
    }

    private void go() {
        for (int sort = 0; sort < 3; sort++) {
            tell(sort, HomeGround.NONE);
        }
        while (calls < CALLS) {
            int kind = random.nextInt(12);
            if (kind == 0) {
                tape();
            } else if (kind < 4) {
                notes();
            } else if (kind < 7) {
                years();
            } else if (kind < 10) {
                games();
            } else if (kind == 10) {
                plans();
            } else {
                told();
            }
        }
    }

    private void is(String call, long got, long want) {
        calls++;
        DUE.is("run " + run + ": " + call, got, want);
    }

    private void is(String call, boolean got, boolean want) {
        is(call, got ? 1 : 0, want ? 1 : 0);
    }

    /** From least to most, seldom just outside. */
    private int near(int least, int most) {
        return random.nextInt(40) == 0 ? (random.nextBoolean() ? least - 1 : most + 1)
            : least + random.nextInt(most - least + 1);
    }

    private boolean seldom(int of) {
        return random.nextInt(of) == 0;
    }

    // ---- texts ----

    private void tell(int sort, int at) {
        String text = sort == 0 ? league() : sort == 1 ? law() : plan();
        if (seldom(3)) {
            text = spoilt(text);
        }
        text = text.substring(0, Math.min(500, text.length()));
        Due.feed(x, text);
        calls += text.length() / 20 + 2;
        for (int i = 0; i < text.length(); i += 20) {
            int[] numbers = new int[5];
            for (int k = 0; k < 20; k++) {
                numbers[k / 4] = numbers[k / 4] << 8 | (i + k < text.length() ? text.charAt(i + k) & 255 : 0);
            }
            model.feed(numbers);
        }
        is("end " + text, x.end(text.length()), model.end(text.length()));
        is("text " + sort + " " + at + " " + text, x.text(sort, at), model.text(sort, at));
        is("fault " + text, x.fault(0), model.fault(0));
        is("place " + text, x.fault(1), model.fault(1));
    }

    private String blank() {
        return seldom(6) ? seldom(2) ? "\n" : "  " : "";
    }

    private String line(String word, int... numbers) {
        StringBuilder all = new StringBuilder(blank()).append(word);
        for (int number : numbers) {
            all.append(seldom(8) && all.charAt(all.length() - 1) > '9' ? "" : " ").append(number);
        }
        return all.append(blank()).append(';').toString();
    }

    private int most(int most) {
        return seldom(60) ? most + 1 : seldom(5) ? most : random.nextInt(most + 1);
    }

    private String league() {
        StringBuilder all = new StringBuilder();
        int grounds = seldom(6) ? random.nextInt(12) : 2 + random.nextInt(4);
        for (int g = 0; g < grounds; g++) {
            all.append(line("ground", most(99), seldom(3) ? most(99) : random.nextInt(6), most(999)));
        }
        int many = seldom(5) ? random.nextInt(10) : sides;
        for (int s = 0; s < many; s++) {
            all.append(line("side", most(Math.max(0, grounds - 1)), seldom(4) ? most(50) : random.nextInt(20)));
        }
        for (int i = random.nextInt(9); i > 0; i--) {
            int a = most(Math.max(0, grounds - 1));
            int b = seldom(30) ? a : Math.floorMod(a + 1 + random.nextInt(Math.max(1, grounds - 1)), Math.max(1, grounds));
            all.append(line("miles", a, b, random.nextBoolean() ? most(9999) : random.nextInt(50)));
        }
        return all.toString();
    }

    private String law() {
        String[] words = {"base", "known", "miles", "rest", "sung", "judged", "height"};
        int[] per = {0, 0, 9999, 30, 999, 999, 99};
        StringBuilder all = new StringBuilder();
        for (int i = random.nextInt(10); i > 0; i--) {
            int k = random.nextInt(7);
            int much = k == 0 ? most(100) : seldom(3) ? most(50) : random.nextInt(6);
            all.append(k < 2 ? line(words[k], much)
                : line(words[k], much, seldom(60) ? 0 : seldom(2) ? most(per[k]) : 1 + random.nextInt(Math.min(per[k], 30))));
        }
        return all.toString();
    }

    private String plan() {
        StringBuilder all = new StringBuilder();
        int day = 0;
        int many = seldom(20) ? 38 + random.nextInt(4) : random.nextInt(12);
        for (int game = 0; game < many; game++) {
            while (many < 30 && seldom(2)) {
                switch (random.nextInt(7)) {
                    case 0 -> all.append(line("people"));
                    case 1 -> all.append(line("empty"));
                    case 2 -> all.append(line("soft"));
                    case 3 -> all.append(line("strict"));
                    case 4 -> all.append(line("at", seldom(20) ? most(9) : random.nextInt(3)));
                    default -> {
                        day += random.nextInt(7);
                        all.append(line("day", seldom(60) ? random.nextInt(1100) : day));
                    }
                }
            }
            int home = seldom(40) ? most(7) : random.nextInt(sides);
            int guest = seldom(60) ? home : (home + 1 + random.nextInt(sides - 1)) % sides;
            all.append(line("game", home, guest));
        }
        return all.toString();
    }

    private String spoilt(String text) {
        String[] bits = {";", "1", "12345", " ", "", "\n", "x", "?", "side", "base 1;", "game 0 1;", "at 1", "\u0000", "\u00ff"};
        int at = random.nextInt(text.length() + 1);
        int to = Math.min(text.length(), at + random.nextInt(3));
        return text.substring(0, at) + bits[random.nextInt(bits.length)] + text.substring(to);
    }

    private void tape() {
        switch (random.nextInt(8)) {
            case 0 -> {
                int[] n = random.ints(5).toArray();
                is("feed", x.feed(n[0], n[1], n[2], n[3], n[4]), model.feed(n));
            }
            case 1 -> {
                int n = near(-1, 40);
                is("end", x.end(n), model.end(n));
            }
            case 2 -> {
                int sort = near(0, 2);
                int at = near(-1, 2);
                is("text", x.text(sort, at), model.text(sort, at));
            }
            case 3 -> {
                int k = near(0, 2);
                is("image", x.image(k), model.image(k));
            }
            case 4 -> {
                int k = near(0, 2);
                is("again", x.again(k), model.again(k));
            }
            default -> {
                is("end(0)", x.end(0), model.end(0));
                tell(random.nextInt(3), near(-1, 2));
            }
        }
    }

    // ---- what is told ----

    private void told() {
        int k = near(0, 2);
        int a = near(0, 5);
        int b = near(0, 5);
        int what = near(-1, 61);
        is("fault", x.fault(a), model.fault(a));
        is("league " + what, x.league(k, what), model.league(k, what));
        is("miles", x.miles(k, a, b), model.miles(k, a, b));
        is("law " + what, x.law(k, what), model.law(k, what));
        int game = near(-1, 12);
        is("plan", x.plan(k, game, a), model.plan(k, game, a));
        is("count", x.count(a - 1), model.count(a - 1));
        int note = near(0, 80);
        int of = near(0, 9);
        is("noted", x.noted(note, of), model.noted(note, of));
    }

    // ---- games ----

    private void games() {
        int league = seldom(4) ? near(0, 2) : 0;
        int law = seldom(2) ? near(0, 2) : 0;
        int plan = seldom(4) ? near(0, 2) : 0;
        int game = near(0, 11);
        int part = near(0, 5);
        int price = near(101, 999);
        boolean under = random.nextBoolean();
        String call = " " + league + " " + law + " " + plan + " " + game + " " + part + " " + price;
        is("goes" + call, x.goes(league, plan), model.goes(league, plan));
        switch (random.nextInt(11)) {
            case 0 -> {
                int year = near(0, 59);
                int seed = random.nextInt();
                is("play" + call, x.play(league, law, plan, seed, year), model.play(league, law, plan, seed, year));
                is("felt" + call, x.felt(league, law, plan, part, year, under),
                    model.felt(league, law, plan, part, year, under));
            }
            case 1 -> is("like" + call, x.like(league, law, plan, part), model.like(league, law, plan, part));
            case 2 -> is("single" + call, x.single(league, law, plan, part), model.single(league, law, plan, part));
            case 3 -> {
                int year = random.nextInt(years);
                is("felt" + call, x.felt(league, law, plan, part, year, under),
                    model.felt(league, law, plan, part, year, under));
            }
            case 4 -> {
                int other = near(0, 2);
                is("rule" + call, x.rule(league, law, other, plan), model.rule(league, law, other, plan));
            }
            case 5 -> is("less" + call, x.less(league, law, plan, part), model.less(league, law, plan, part));
            case 6 -> is("bet" + call, x.bet(league, law, plan, game, price), model.bet(league, law, plan, game, price));
            case 7 -> is("best" + call, x.best(league, law, plan, price), model.best(league, law, plan, price));
            case 8 -> is("fair" + call, x.fair(league, law, plan, game), model.fair(league, law, plan, game));
            case 9 -> {
                for (int what = -1; what < 5; what++) {
                    is("chance" + call, x.chance(league, law, plan, game, what), model.chance(league, law, plan, game, what));
                }
            }
            default -> {
                for (int what = -1; what < 11; what++) {
                    is("worth" + call + " " + what, x.worth(league, law, plan, game, what),
                        model.worth(league, law, plan, game, what));
                }
            }
        }
    }

    private void plans() {
        int league = seldom(4) ? near(0, 2) : 0;
        int plan = seldom(3) ? near(0, 2) : 0;
        int side = near(0, 7);
        int n = near(0, 12);
        boolean home = random.nextBoolean();
        String call = " " + league + " " + plan + " " + side + " " + n;
        is("travel" + call, x.travel(league, plan, side), model.travel(league, plan, side));
        is("runs" + call, x.runs(plan, side, home), model.runs(plan, side, home));
        is("early" + call, x.early(league, plan, n), model.early(league, plan, n));
        is("uneven" + call, x.uneven(plan), model.uneven(plan));
        is("turned" + call, x.turned(league, plan), model.turned(league, plan));
    }

    // ---- noted ----

    private void notes() {
        int judge = seldom(3) ? near(0, 7) : random.nextInt(2);
        int a = near(0, 30);
        int b = near(0, 30);
        boolean first = random.nextBoolean();
        if (seldom(5)) {
            is("films", x.films(judge, first, a, b), model.films(judge, first, a, b));
            is("looser", x.looser(judge, first), model.looser(judge, first));
            return;
        }
        int home = seldom(50) ? near(0, 7) : random.nextInt(sides);
        int guest = seldom(50) ? near(0, 7) : random.nextInt(sides);
        int year = seldom(50) ? near(0, 59) : random.nextInt(years);
        int goals = seldom(3) ? near(0, 99) : 10 * random.nextInt(4) + random.nextInt(4);
        int cards = near(0, 99);
        int minutes = near(0, 19);
        int loud = seldom(2) ? near(0, 999) : 100 * random.nextInt(10);
        is("note", x.note(home, guest, year, goals, cards, minutes, loud, judge),
            model.note(home, guest, year, goals, cards, minutes, loud, judge));
    }

    private void years() {
        int from = seldom(2) ? 0 : near(0, years);
        int to = seldom(2) ? 59 : from + near(0, 9);
        int k = near(0, 8);
        int judge = seldom(3) ? near(0, 7) : random.nextInt(2);
        int l = seldom(2) ? 100 * random.nextInt(11) : near(0, 1000);
        boolean b = random.nextBoolean();
        String call = " " + from + " " + to + " " + k + " " + judge + " " + l + " " + b;
        switch (random.nextInt(13)) {
            case 0 -> is("sum" + call, x.sum(from, to, k), model.sum(from, to, k));
            case 1 -> is("table" + call, x.table(from, to, k), model.table(from, to, k));
            case 2 -> is("points" + call, x.points(from, to, k), model.points(from, to, k));
            case 3 -> is("alone" + call, x.alone(from, to, b), model.alone(from, to, b));
            case 4 -> {
                for (int side = -2; side < 9; side++) {
                    is("both" + call + " " + side, x.both(from, to, side, b), model.both(from, to, side, b));
                }
            }
            case 5 -> is("off" + call, x.off(from, to, b), model.off(from, to, b));
            case 6 -> is("people" + call, x.people(from, to, l, b), model.people(from, to, l, b));
            case 7 -> is("slope" + call, x.slope(from, to, b), model.slope(from, to, b));
            case 8 -> is("odds" + call, x.odds(from, to, l, b), model.odds(from, to, l, b));
            case 9 -> is("carded" + call, x.carded(from, to, judge), model.carded(from, to, judge));
            case 10 -> is("longer" + call, x.longer(from, to, judge, b), model.longer(from, to, judge, b));
            case 11 -> is("fresh" + call, x.fresh(judge, from, k), model.fresh(judge, from, k));
            default -> {
                int price = near(101, 999);
                int s = near(0, seldom(4) ? 9999 : 500);
                is("had" + call, x.had(from, to, price), model.had(from, to, price));
                is("fixed" + call, x.fixed(from, to, price, s), model.fixed(from, to, price, s));
            }
        }
    }
}
