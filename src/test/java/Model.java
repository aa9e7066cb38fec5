import java.math.BigInteger;
import java.util.ArrayList;
import java.util.Arrays;
import java.util.HashMap;
import java.util.List;
import java.util.Map;
import java.util.TreeSet;

/**
 * The document's answers by other ways than the class has: lists and maps, fractions of big numbers, choices
 * counted game by game, shots one by one. Only for tests: slow, and free of the language's rules.
 */
final class Model {
    private static final int NO_SHARE = -1000000;
    private static final long NO_LONG = -1000000000000000L;

    /** A fraction in least terms. */
    record Share(BigInteger over, BigInteger under) {
        static Share of(long over, long under) {
            return of(BigInteger.valueOf(over), BigInteger.valueOf(under));
        }

        static Share of(BigInteger over, BigInteger under) {
            BigInteger common = over.gcd(under);
            if (under.signum() < 0) {
                common = common.negate();
            }
            return new Share(over.divide(common), under.divide(common));
        }

        Share less(Share other) {
            return of(over.multiply(other.under).subtract(other.over.multiply(under)), under.multiply(other.under));
        }

        Share by(Share other) {
            return of(over.multiply(other.over), under.multiply(other.under));
        }

        Share parted(Share other) {
            return of(over.multiply(other.under), under.multiply(other.over));
        }

        boolean isNought() {
            return over.signum() == 0;
        }

        long part(boolean below) {
            return (below ? under : over).longValueExact();
        }
    }

    static final class League {
        final List<int[]> grounds = new ArrayList<>();
        final List<int[]> sides = new ArrayList<>();
        final Map<Integer, Integer> miles = new HashMap<>();

        int apart(int a, int b) {
            return miles.getOrDefault(100 * Math.min(a, b) + Math.max(a, b), 0);
        }
    }

    static final class Law {
        int base = 30;
        final int[] much = new int[6];
        final int[] per = {1, 1, 1, 1, 1, 1};
    }

    static final class Plan {
        /** Home, guest, DAY, with PEOPLE, SOFT, the other GROUND. */
        final List<int[]> games = new ArrayList<>();
    }

    static final class Said {
        List<League> leagues = new ArrayList<>();
        List<Law> laws = new ArrayList<>();
        List<Plan> plans = new ArrayList<>();
        List<int[]> noted = new ArrayList<>();
        Map<Integer, int[]> films = new HashMap<>();
        List<Integer> tape = new ArrayList<>();
        int fault = 0;
        int place = -1;

        Said copy() {
            Said copy = new Said();
            copy.leagues.addAll(leagues);
            copy.laws.addAll(laws);
            copy.plans.addAll(plans);
            copy.noted.addAll(noted);
            copy.films.putAll(films);
            copy.tape.addAll(tape);
            copy.fault = fault;
            copy.place = place;
            return copy;
        }
    }

    private Said said = new Said();
    private final Said[] images = new Said[3];

    private static <T> T at(List<T> list, int k) {
        return k >= 0 && k < list.size() ? list.get(k) : null;
    }

    // ---- texts ----

    int feed(int... numbers) {
        if (said.tape.size() > 480) {
            return -1;
        }
        for (int number : numbers) {
            for (byte one : java.nio.ByteBuffer.allocate(4).putInt(number).array()) {
                said.tape.add(Byte.toUnsignedInt(one));
            }
        }
        return said.tape.size();
    }

    int end(int n) {
        if (n < 0 || n > said.tape.size()) {
            return -1;
        }
        said.tape.subList(n, said.tape.size()).clear();
        return n;
    }

    private record Token(int place, String text) { }

    int text(int sort, int at) {
        StringBuilder all = new StringBuilder();
        said.tape.forEach(one -> all.append((char) (int) one));
        said.tape.clear();
        said.fault = 0;
        said.place = -1;
        List<?> list = sort == 0 ? said.leagues : sort == 1 ? said.laws : sort == 2 ? said.plans : null;
        if (list == null || (at == -1 ? list.size() == 3 : at < 0 || at >= list.size())) {
            return -2;
        }
        List<Token> tokens = new ArrayList<>();
        java.util.regex.Matcher m = java.util.regex.Pattern.compile("[a-z]+|[0-9]+|;|[^ \n]").matcher(all);
        while (m.find()) {
            tokens.add(new Token(m.start(), m.group()));
        }
        tokens.add(new Token(all.length(), ""));
        int wrong = wrongForm(sort, tokens);
        if (wrong >= 0) {
            said.fault = 1;
            said.place = wrong;
            return -1;
        }
        int where = at == -1 ? list.size() : at;
        boolean good = sort == 0 ? leagueOf(tokens, where) : sort == 1 ? lawOf(tokens, where) : planOf(tokens, where);
        return good ? where : -1;
    }

    private static final String[] FORMS = {"ground### side## miles### ", "base# known# miles## rest## sung## judged## height## ",
        "day# people empty soft strict at# game## "};

    /** The place of the first token with which no text goes on: each line's form is spelt and looked for. */
    private static int wrongForm(int sort, List<Token> tokens) {
        String line = "";
        for (Token token : tokens) {
            String text = token.text;
            if (text.isEmpty()) {
                return line.isEmpty() ? -1 : token.place;
            }
            if (text.equals(";")) {
                if (line.isEmpty() || !(" " + FORMS[sort]).contains(" " + line + " ")) {
                    return token.place;
                }
                line = "";
            } else if (text.matches("[0-9]{1,4}")) {
                line += "#";
                if (line.equals("#") || !(" " + FORMS[sort]).contains(" " + line)) {
                    return token.place;
                }
            } else if (line.isEmpty() && text.matches("[a-z]+") && (" " + FORMS[sort]).matches(".* " + text + "[# ].*")) {
                line = text;
            } else {
                return token.place;
            }
        }
        return -1;
    }

    private boolean fault(int fault, int place) {
        said.fault = fault;
        said.place = place;
        return false;
    }

    private static <T> void put(List<T> list, int where, T one) {
        if (where == list.size()) {
            list.add(one);
        } else {
            list.set(where, one);
        }
    }

    private static int n(List<Token> tokens, int i) {
        return Integer.parseInt(tokens.get(i).text);
    }

    private boolean leagueOf(List<Token> tokens, int where) {
        League league = new League();
        int i = 0;
        while (!tokens.get(i).text.isEmpty()) {
            int first = tokens.get(i).place;
            switch (tokens.get(i).text) {
                case "ground" -> {
                    if (league.grounds.size() == 10) {
                        return fault(3, first);
                    }
                    int[] most = {99, 99, 999};
                    for (int k = 0; k < 3; k++) {
                        if (n(tokens, i + 1 + k) > most[k]) {
                            return fault(2, tokens.get(i + 1 + k).place);
                        }
                    }
                    league.grounds.add(new int[] {n(tokens, i + 1), n(tokens, i + 2), n(tokens, i + 3)});
                    i += 5;
                }
                case "side" -> {
                    if (league.sides.size() == 8) {
                        return fault(3, first);
                    }
                    if (n(tokens, i + 1) >= league.grounds.size()) {
                        return fault(2, tokens.get(i + 1).place);
                    }
                    if (n(tokens, i + 2) > 50) {
                        return fault(2, tokens.get(i + 2).place);
                    }
                    league.sides.add(new int[] {n(tokens, i + 1), n(tokens, i + 2)});
                    i += 4;
                }
                default -> {
                    int a = n(tokens, i + 1);
                    int b = n(tokens, i + 2);
                    if (a >= league.grounds.size()) {
                        return fault(2, tokens.get(i + 1).place);
                    }
                    if (b >= league.grounds.size() || a == b) {
                        return fault(2, tokens.get(i + 2).place);
                    }
                    league.miles.put(100 * Math.min(a, b) + Math.max(a, b), n(tokens, i + 3));
                    i += 5;
                }
            }
        }
        put(said.leagues, where, league);
        return true;
    }

    private boolean lawOf(List<Token> tokens, int where) {
        Law law = new Law();
        List<String> words = List.of("known", "miles", "rest", "sung", "judged", "height");
        int[] most = {0, 9999, 30, 999, 999, 99};
        int i = 0;
        while (!tokens.get(i).text.isEmpty()) {
            int much = n(tokens, i + 1);
            int part = words.indexOf(tokens.get(i).text);
            if (much > (part < 0 ? 100 : 50)) {
                return fault(2, tokens.get(i + 1).place);
            }
            if (part < 0) {
                law.base = much;
                i += 3;
                continue;
            }
            law.much[part] = much;
            i += 3;
            if (part > 0) {
                int per = n(tokens, i - 1);
                if (per < 1 || per > most[part]) {
                    return fault(2, tokens.get(i - 1).place);
                }
                law.per[part] = per;
                i++;
            }
        }
        put(said.laws, where, law);
        return true;
    }

    private boolean planOf(List<Token> tokens, int where) {
        Plan plan = new Plan();
        int day = 0;
        int people = 1;
        int soft = 0;
        int ground = -1;
        int i = 0;
        while (!tokens.get(i).text.isEmpty()) {
            String word = tokens.get(i).text;
            int first = tokens.get(i).place;
            i++;
            switch (word) {
                case "day" -> {
                    if (n(tokens, i) < day || n(tokens, i) > 999) {
                        return fault(2, tokens.get(i).place);
                    }
                    day = n(tokens, i++);
                }
                case "at" -> {
                    if (n(tokens, i) > 9) {
                        return fault(2, tokens.get(i).place);
                    }
                    ground = n(tokens, i++);
                }
                case "game" -> {
                    if (plan.games.size() == 40) {
                        return fault(3, first);
                    }
                    int home = n(tokens, i++);
                    int guest = n(tokens, i++);
                    if (home > 7) {
                        return fault(2, tokens.get(i - 2).place);
                    }
                    if (guest > 7 || guest == home) {
                        return fault(2, tokens.get(i - 1).place);
                    }
                    plan.games.add(new int[] {home, guest, day, people, soft, ground});
                    ground = -1;
                }
                case "people" -> people = 1;
                case "empty" -> people = 0;
                case "soft" -> soft = 1;
                default -> soft = 0;
            }
            i++;
        }
        put(said.plans, where, plan);
        return true;
    }

    int fault(int what) {
        return what == 0 ? said.fault : what == 1 ? said.place : -1;
    }

    int league(int league, int what) {
        League l = at(said.leagues, league);
        if (l == null) {
            return -1;
        }
        if (what == 0 || what == 1) {
            return what == 0 ? l.grounds.size() : l.sides.size();
        }
        int k = Math.floorMod(what, 10);
        int[] row = what >= 10 && what < 40 ? at(l.grounds, k) : what >= 40 && what < 60 ? at(l.sides, k) : null;
        return row == null ? -1 : row[what < 40 ? what / 10 - 1 : what / 10 - 4];
    }

    int miles(int league, int a, int b) {
        League l = at(said.leagues, league);
        return l == null || at(l.grounds, a) == null || at(l.grounds, b) == null ? -1 : l.apart(a, b);
    }

    int law(int law, int what) {
        Law l = at(said.laws, law);
        if (l == null) {
            return -1;
        }
        if (what >= 10 && what <= 15) {
            return l.much[what - 10];
        }
        return what == 0 ? l.base : what >= 21 && what <= 25 ? l.per[what - 20] : -1;
    }

    int plan(int plan, int game, int what) {
        Plan p = at(said.plans, plan);
        if (p == null || what < 0 || what > 5) {
            return -2;
        }
        if (game == -1) {
            return what == 0 ? p.games.size() : -2;
        }
        int[] row = at(p.games, game);
        return row == null ? -2 : row[what];
    }

    boolean goes(int league, int plan) {
        League l = at(said.leagues, league);
        Plan p = at(said.plans, plan);
        return l != null && p != null && p.games.stream().allMatch(g -> at(l.sides, g[0]) != null
            && at(l.sides, g[1]) != null && (g[5] == -1 || at(l.grounds, g[5]) != null));
    }

    // ---- games ----

    private boolean ready(int league, int law, int plan) {
        return goes(league, plan) && at(said.laws, law) != null;
    }

    /** PARTS 0 to 5, EDGE, LOUD, p, q. */
    private int[] weighed(int league, int law, int plan, int game, int without) {
        League l = said.leagues.get(league);
        Law w = said.laws.get(law);
        List<int[]> games = said.plans.get(plan).games;
        int[] g = games.get(game);
        int[] home = l.sides.get(g[0]);
        int[] guest = l.sides.get(g[1]);
        int ground = g[5] >= 0 ? g[5] : home[0];
        int[] here = l.grounds.get(ground);
        int loud = g[3] == 1 ? here[2] / (here[1] + 1) : 0;
        int[] rests = {30, 30};
        for (int who = 0; who < 2; who++) {
            for (int k = 0; k < game; k++) {
                int[] ahead = games.get(k);
                if (ahead[0] == g[who] || ahead[1] == g[who]) {
                    rests[who] = g[2] - ahead[2];
                }
            }
        }
        int[] often = {ground == home[0] && ground != guest[0] ? 1 : 0, l.apart(guest[0], ground) / w.per[1],
            rests[1] < w.per[2] && rests[0] >= w.per[2] ? 1 : 0, loud / w.per[3], g[4] * loud / w.per[4],
            Math.max(here[0] - l.grounds.get(guest[0])[0], 0) / w.per[5]};
        int[] all = new int[10];
        for (int part = 0; part < 6; part++) {
            all[part] = part == without ? 0 : Math.min(50, w.much[part] * often[part]);
            all[6] += all[part];
        }
        all[7] = loud;
        all[8] = Math.min(100, Math.max(0, w.base + home[1] - guest[1] + all[6]));
        all[9] = Math.min(100, Math.max(0, w.base + guest[1] - home[1]));
        return all;
    }

    /** All 64 ways that six shots go. */
    private static long[] chances(int p, int q) {
        long[] all = new long[4];
        for (int ways = 0; ways < 64; ways++) {
            long chance = 1;
            for (int shot = 0; shot < 6; shot++) {
                int percent = shot < 3 ? p : q;
                chance *= (ways >> shot & 1) == 1 ? percent : 100 - percent;
            }
            int home = Integer.bitCount(ways & 7);
            int guest = Integer.bitCount(ways >> 3);
            all[home > guest ? 0 : home == guest ? 1 : 2] += chance;
        }
        all[3] = 3 * all[0] + all[1];
        return all;
    }

    private long[] chances(int league, int law, int plan, int game, int without) {
        int[] all = weighed(league, law, plan, game, without);
        return chances(all[8], all[9]);
    }

    int worth(int league, int law, int plan, int game, int part) {
        if (!ready(league, law, plan) || at(said.plans.get(plan).games, game) == null || part < 0 || part > 9) {
            return -1;
        }
        return weighed(league, law, plan, game, -1)[part];
    }

    long chance(int league, int law, int plan, int game, int what) {
        if (!ready(league, law, plan) || at(said.plans.get(plan).games, game) == null || what < 0 || what > 3) {
            return -1;
        }
        return chances(league, law, plan, game, -1)[what];
    }

    private int x;

    private int drawn(int n) {
        x = (int) ((x & 0xffffffffL) * 1103515245L + 12345L);
        return (int) (((x & 0xffffffffL) >> 16) % n);
    }

    int play(int league, int law, int plan, int seed, int year) {
        if (!ready(league, law, plan) || year < 0 || year > 59) {
            return -1;
        }
        List<int[]> games = said.plans.get(plan).games;
        if (said.noted.size() + games.size() > 80) {
            return -1;
        }
        x = seed;
        for (int game = 0; game < games.size(); game++) {
            int[] g = games.get(game);
            int[] all = weighed(league, law, plan, game, -1);
            int home = 0;
            int guest = 0;
            for (int shot = 0; shot < 3; shot++) {
                home += drawn(100) < all[8] ? 1 : 0;
            }
            for (int shot = 0; shot < 3; shot++) {
                guest += drawn(100) < all[9] ? 1 : 0;
            }
            int cards = drawn(4);
            int others = drawn(4) + Integer.signum(all[4]);
            int minutes = 1 + drawn(3) + (g[4] == 1 && home + 1 == guest ? 2 : 0);
            said.noted.add(new int[] {g[0], g[1], year, home, guest, cards, others, minutes, all[7], g[4]});
        }
        return games.size();
    }

    // ---- noted ----

    int note(int home, int guest, int year, int goals, int cards, int minutes, int loud, int judge) {
        int[] all = {home, guest, year, goals, cards, minutes, loud, judge};
        int[] most = {7, 7, 59, 99, 99, 19, 999, 7};
        for (int i = 0; i < 8; i++) {
            if (all[i] < 0 || all[i] > most[i]) {
                return -1;
            }
        }
        if (home == guest || said.noted.size() == 80) {
            return -1;
        }
        said.noted.add(new int[] {home, guest, year, goals / 10, goals % 10, cards / 10, cards % 10, minutes, loud, judge});
        return said.noted.size() - 1;
    }

    int noted(int k, int what) {
        int[] row = at(said.noted, k);
        return row == null || what < 0 || what > 9 ? -1 : row[what];
    }

    private List<int[]> of(int from, int to) {
        return said.noted.stream().filter(g -> g[2] >= from && g[2] <= to)
            .sorted(java.util.Comparator.comparingInt(g -> g[2])).toList();
    }

    private static int margin(int[] g) {
        return g[3] - g[4];
    }

    private static int points(int margin) {
        return margin > 0 ? 3 : margin == 0 ? 1 : 0;
    }

    int sum(int from, int to, int what) {
        List<int[]> games = of(from, to);
        return switch (what) {
            case 0 -> games.size();
            case 1 -> (int) games.stream().filter(g -> margin(g) > 0).count();
            case 2 -> (int) games.stream().filter(g -> margin(g) == 0).count();
            case 3 -> (int) games.stream().filter(g -> margin(g) < 0).count();
            case 4 -> games.stream().mapToInt(g -> g[3]).sum();
            case 5 -> games.stream().mapToInt(g -> g[4]).sum();
            default -> -1;
        };
    }

    int table(int from, int to, int place) {
        Map<Integer, int[]> rows = new HashMap<>();
        for (int[] g : of(from, to)) {
            for (int who = 0; who < 2; who++) {
                int[] row = rows.computeIfAbsent(g[who], k -> new int[3]);
                int margin = who == 0 ? margin(g) : -margin(g);
                row[0] += points(margin);
                row[1] += margin;
                row[2] += g[3 + who];
            }
        }
        List<Integer> sides = new ArrayList<>(rows.keySet());
        sides.sort((a, b) -> {
            int[] one = rows.get(a);
            int[] other = rows.get(b);
            int more = Arrays.compare(other, one);
            return more != 0 ? more : a - b;
        });
        Integer side = at(sides, place);
        return side == null ? -1 : side;
    }

    int points(int from, int to, int side) {
        if (side < 0 || side > 7) {
            return -1;
        }
        int all = 0;
        for (int[] g : of(from, to)) {
            all += g[0] == side ? points(margin(g)) : g[1] == side ? points(-margin(g)) : 0;
        }
        return all;
    }

    private static Share mean(List<int[]> games, int what) {
        int all = games.stream().mapToInt(g -> what < 0 ? margin(g) : g[what]).sum();
        return games.isEmpty() ? null : Share.of(all, games.size());
    }

    private static int answer(Share share, boolean under) {
        return share == null ? NO_SHARE : (int) share.part(under);
    }

    private static int answer(Share one, Share other, boolean under) {
        return one == null || other == null ? NO_SHARE : answer(one.less(other), under);
    }

    int alone(int from, int to, boolean under) {
        return answer(mean(of(from, to), -1), under);
    }

    /** H, then STRENGTHS by SIDE, or null. */
    private Map<Integer, Share> fitted(int from, int to) {
        List<int[]> games = of(from, to);
        TreeSet<Integer> sides = new TreeSet<>();
        for (int[] g : games) {
            sides.add(g[0]);
            sides.add(g[1]);
        }
        if (sides.isEmpty() || sides.size() > 6) {
            return null;
        }
        List<Integer> free = new ArrayList<>(sides);
        free.set(0, -1);
        int n = free.size();
        Share[][] rows = new Share[n][n + 1];
        for (Share[] row : rows) {
            Arrays.fill(row, Share.of(0, 1));
        }
        for (int[] g : games) {
            int[] factors = new int[n + 1];
            for (int i = 0; i < n; i++) {
                factors[i] = free.get(i) == -1 || free.get(i) == g[0] ? 1 : free.get(i) == g[1] ? -1 : 0;
            }
            factors[n] = margin(g);
            for (int i = 0; i < n; i++) {
                for (int j = 0; j <= n; j++) {
                    rows[i][j] = rows[i][j].less(Share.of(-factors[i] * factors[j], 1));
                }
            }
        }
        // from the last unknown on, with exchange of rows
        for (int k = n - 1; k >= 0; k--) {
            int with = k;
            while (with >= 0 && rows[with][k].isNought()) {
                with--;
            }
            if (with < 0) {
                return null;
            }
            Share[] kept = rows[with];
            rows[with] = rows[k];
            rows[k] = kept;
            for (int i = 0; i < n; i++) {
                if (i != k) {
                    Share factor = rows[i][k].parted(rows[k][k]);
                    for (int j = 0; j <= n; j++) {
                        rows[i][j] = rows[i][j].less(factor.by(rows[k][j]));
                    }
                }
            }
        }
        Map<Integer, Share> all = new HashMap<>();
        for (int i = 0; i < n; i++) {
            all.put(free.get(i), rows[i][n].parted(rows[i][i]));
        }
        all.put(sides.first(), Share.of(0, 1));
        return all;
    }

    long both(int from, int to, int side, boolean under) {
        Map<Integer, Share> all = fitted(from, to);
        Share share = all == null ? null : all.get(side);
        return share == null ? NO_LONG : share.part(under);
    }

    long off(int from, int to, boolean under) {
        Map<Integer, Share> all = fitted(from, to);
        return all == null ? NO_LONG : mean(of(from, to), -1).less(all.get(-1)).part(under);
    }

    int people(int from, int to, int l, boolean under) {
        if (l < 0 || l > 1000) {
            return NO_SHARE;
        }
        List<int[]> games = of(from, to);
        return answer(mean(games.stream().filter(g -> g[8] >= l).toList(), -1),
            mean(games.stream().filter(g -> g[8] < l).toList(), -1), under);
    }

    int slope(int from, int to, boolean under) {
        List<int[]> games = of(from, to);
        Share years = mean(games, 2);
        Share margins = mean(games, -1);
        Share over = Share.of(0, 1);
        Share below = Share.of(0, 1);
        for (int[] g : games) {
            Share year = Share.of(g[2], 1).less(years);
            over = over.less(year.by(margins.less(Share.of(margin(g), 1))));
            below = below.less(year.by(years.less(Share.of(g[2], 1))));
        }
        return below.isNought() ? NO_SHARE : answer(over.parted(below), under);
    }

    /** In how many ways m of n are chosen with at least so many of the marked ones, one by one. */
    private static long chosen(boolean[] marked, int m, int least) {
        BigInteger[][] ways = new BigInteger[m + 2][marked.length + 2];
        for (BigInteger[] row : ways) {
            Arrays.fill(row, BigInteger.ZERO);
        }
        ways[0][0] = BigInteger.ONE;
        for (boolean mark : marked) {
            for (int many = m; many > 0; many--) {
                for (int with = marked.length; with >= (mark ? 1 : 0); with--) {
                    ways[many][with] = ways[many][with].add(ways[many - 1][mark ? with - 1 : with]);
                }
            }
        }
        BigInteger all = BigInteger.ZERO;
        for (int with = least; with <= marked.length; with++) {
            all = all.add(ways[m][with]);
        }
        return all.longValueExact();
    }

    long odds(int from, int to, int l, boolean all) {
        List<int[]> games = of(from, to);
        if (games.size() > 60 || l < 0 || l > 1000) {
            return -1;
        }
        boolean[] wins = new boolean[games.size()];
        int m = 0;
        int a = 0;
        for (int i = 0; i < wins.length; i++) {
            wins[i] = margin(games.get(i)) > 0;
            if (games.get(i)[8] >= l) {
                m++;
                a += wins[i] ? 1 : 0;
            }
        }
        return chosen(wins, m, all ? 0 : a);
    }

    int carded(int from, int to, int judge) {
        List<int[]> games = of(from, to).stream().filter(g -> g[9] == judge).toList();
        return games.isEmpty() ? NO_SHARE : games.stream().mapToInt(g -> g[6] - g[5]).sum();
    }

    int longer(int from, int to, int judge, boolean under) {
        List<int[]> games = of(from, to).stream().filter(g -> g[9] == judge).toList();
        return answer(mean(games.stream().filter(g -> g[3] + 1 == g[4]).toList(), 7),
            mean(games.stream().filter(g -> g[3] == g[4] + 1).toList(), 7), under);
    }

    int fresh(int side, int from, int k) {
        List<int[]> games = of(from, 59).stream().filter(g -> g[0] == side).toList();
        if (side < 0 || side > 7 || k < 1 || k > 40 || games.size() < 2 * k) {
            return NO_SHARE;
        }
        return games.subList(0, k).stream().mapToInt(g -> points(margin(g))).sum()
            - games.subList(k, 2 * k).stream().mapToInt(g -> points(margin(g))).sum();
    }

    boolean films(int judge, boolean sound, int shown, int gave) {
        if (judge < 0 || judge > 7 || shown < 0 || shown > 30 || gave < 0 || gave > 30 || gave > shown) {
            return false;
        }
        said.films.put(sound ? judge : 10 + judge, new int[] {shown, gave});
        return true;
    }

    long looser(int judge, boolean all) {
        if (judge < 0 || judge > 7) {
            return -1;
        }
        int[] sound = said.films.getOrDefault(judge, new int[2]);
        int[] without = said.films.getOrDefault(10 + judge, new int[2]);
        boolean[] given = new boolean[sound[0] + without[0]];
        Arrays.fill(given, 0, sound[1] + without[1], true);
        return chosen(given, without[0], all ? 0 : without[1]);
    }

    int had(int from, int to, int price) {
        int wins = sum(from, to, 1);
        return price < 101 || price > 999 ? NO_SHARE : wins * price - 100 * of(from, to).size();
    }

    int fixed(int from, int to, int price, int s) {
        if (price < 101 || price > 999 || s < 0 || s > 9999) {
            return -1;
        }
        int all = 0;
        int bets = 0;
        for (int[] g : of(from, to)) {
            bets++;
            all -= 100;
            all += margin(g) > 0 ? price : 0;
            if (all + s < 0) {
                return bets;
            }
        }
        return bets;
    }

    // ---- plans ----

    private static int travel(League l, List<int[]> games, int side) {
        List<Integer> way = new ArrayList<>();
        way.add(l.sides.get(side)[0]);
        for (int[] g : games) {
            if (g[0] == side || g[1] == side) {
                way.add(g[5] >= 0 ? g[5] : l.sides.get(g[0])[0]);
            }
        }
        way.add(l.sides.get(side)[0]);
        int all = 0;
        for (int i = 1; i < way.size(); i++) {
            all += l.apart(way.get(i - 1), way.get(i));
        }
        return all;
    }

    int travel(int league, int plan, int side) {
        if (!goes(league, plan) || at(said.leagues.get(league).sides, side) == null) {
            return -1;
        }
        return travel(said.leagues.get(league), said.plans.get(plan).games, side);
    }

    int runs(int plan, int side, boolean home) {
        Plan p = at(said.plans, plan);
        if (p == null || side < 0 || side > 7) {
            return -1;
        }
        StringBuilder row = new StringBuilder();
        p.games.forEach(g -> row.append(g[0] == side ? "h" : g[1] == side ? "g" : ""));
        return Arrays.stream(row.toString().split(home ? "g+" : "h+")).mapToInt(String::length).max().orElse(0);
    }

    int early(int league, int plan, int n) {
        if (!goes(league, plan) || n < 0 || n > said.plans.get(plan).games.size()) {
            return NO_SHARE;
        }
        League l = said.leagues.get(league);
        return said.plans.get(plan).games.subList(0, n).stream()
            .mapToInt(g -> l.sides.get(g[0])[1] - l.sides.get(g[1])[1]).sum();
    }

    int uneven(int plan) {
        Plan p = at(said.plans, plan);
        if (p == null) {
            return -1;
        }
        Map<Integer, Integer> more = new HashMap<>();
        for (int[] g : p.games) {
            more.merge(10 * Math.min(g[0], g[1]) + Math.max(g[0], g[1]), g[0] < g[1] ? 1 : -1, Integer::sum);
        }
        return (int) more.values().stream().filter(k -> k != 0).count();
    }

    int turned(int league, int plan) {
        if (!goes(league, plan)) {
            return -1;
        }
        League l = said.leagues.get(league);
        List<int[]> games = new ArrayList<>(said.plans.get(plan).games);
        int best = -1;
        int least = together(l, games);
        for (int i = 0; i < games.size(); i++) {
            int[] g = games.get(i);
            games.set(i, new int[] {g[1], g[0], g[2], g[3], g[4], g[5]});
            int way = together(l, games);
            games.set(i, g);
            if (way < least) {
                least = way;
                best = i;
            }
        }
        return best;
    }

    private static int together(League l, List<int[]> games) {
        int all = 0;
        for (int side = 0; side < l.sides.size(); side++) {
            all += travel(l, games, side);
        }
        return all;
    }

    private List<boolean[]> awake(int league, int law, int plan) {
        List<boolean[]> all = new ArrayList<>();
        for (int game = 0; game < said.plans.get(plan).games.size(); game++) {
            boolean[] row = new boolean[6];
            for (int part = 0; part < 6; part++) {
                row[part] = weighed(league, law, plan, game, -1)[part] > 0;
            }
            all.add(row);
        }
        return all;
    }

    int like(int league, int law, int plan, int part) {
        if (!ready(league, law, plan) || part < 0 || part > 5) {
            return -1;
        }
        int bits = 0;
        for (int other = 0; other < 6; other++) {
            int that = other;
            bits += awake(league, law, plan).stream().allMatch(row -> row[part] == row[that]) ? 1 << other : 0;
        }
        return bits;
    }

    /** The couples as rows of two GAMES, the one in which the PART is AWAKE first. */
    private List<int[]> couples(int league, int law, int plan, int part) {
        List<boolean[]> all = awake(league, law, plan);
        List<int[]> couples = new ArrayList<>();
        for (int i = 0; i < all.size(); i++) {
            for (int j = 0; j < all.size(); j++) {
                boolean[] other = all.get(j).clone();
                if (all.get(i)[part] && !other[part]) {
                    other[part] = true;
                    if (Arrays.equals(all.get(i), other)) {
                        couples.add(new int[] {i, j});
                    }
                }
            }
        }
        return couples;
    }

    int single(int league, int law, int plan, int part) {
        return !ready(league, law, plan) || part < 0 || part > 5 ? -1 : couples(league, law, plan, part).size();
    }

    int felt(int league, int law, int plan, int part, int year, boolean under) {
        if (!ready(league, law, plan) || part < 0 || part > 5) {
            return NO_SHARE;
        }
        List<int[]> games = of(year, year);
        List<int[]> couples = couples(league, law, plan, part);
        if (couples.isEmpty() || games.size() < said.plans.get(plan).games.size()) {
            return NO_SHARE;
        }
        int all = couples.stream().mapToInt(c -> margin(games.get(c[0])) - margin(games.get(c[1]))).sum();
        return answer(Share.of(all, couples.size()), under);
    }

    private long hopes(int league, int law, int plan, int without) {
        long all = 0;
        for (int game = 0; game < said.plans.get(plan).games.size(); game++) {
            all += chances(league, law, plan, game, without)[3];
        }
        return all;
    }

    long rule(int league, int law, int other, int plan) {
        return ready(league, law, plan) && ready(league, other, plan)
            ? hopes(league, law, plan, -1) - hopes(league, other, plan, -1) : Long.MIN_VALUE;
    }

    long less(int league, int law, int plan, int part) {
        return ready(league, law, plan) && part >= 0 && part <= 5
            ? hopes(league, law, plan, part) - hopes(league, law, plan, -1) : Long.MIN_VALUE;
    }

    long bet(int league, int law, int plan, int game, int price) {
        long chance = chance(league, law, plan, game, 0);
        return chance < 0 || price < 101 || price > 999 ? Long.MIN_VALUE : chance * price - 100000000000000L;
    }

    int best(int league, int law, int plan, int price) {
        if (!ready(league, law, plan) || price < 101 || price > 999) {
            return -1;
        }
        int best = -1;
        for (int game = said.plans.get(plan).games.size() - 1; game >= 0; game--) {
            long bet = bet(league, law, plan, game, price);
            if (bet > 0 && (best < 0 || bet >= bet(league, law, plan, best, price))) {
                best = game;
            }
        }
        return best;
    }

    int fair(int league, int law, int plan, int game) {
        long chance = chance(league, law, plan, game, 0);
        if (chance <= 0) {
            return -1;
        }
        long price = Math.max(101, (100000000000000L + chance - 1) / chance);
        return price > 999 ? -1 : (int) price;
    }

    int count(int what) {
        return switch (what) {
            case 0 -> said.leagues.size();
            case 1 -> said.laws.size();
            case 2 -> said.plans.size();
            case 3 -> said.noted.size();
            default -> -2;
        };
    }

    boolean image(int k) {
        if (k < 0 || k > 2) {
            return false;
        }
        images[k] = said.copy();
        return true;
    }

    boolean again(int k) {
        if (k < 0 || k > 2 || images[k] == null) {
            return false;
        }
        said = images[k].copy();
        return true;
    }
}
