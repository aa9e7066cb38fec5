/**
 * What playing at home is worth: leagues, laws and plans told as texts, the chances of their games, seasons
 * played by a seed, and what can be read out of games that are noted. The document's words stand in capitals.
 */
public final class HomeGround {
    /** There is none. */
    public static final int NONE = -1;

    private static final int NO_SUCH = -2;
    private static final int NO_SHARE = -1000000;
    private static final long NO_LONG_SHARE = -1000000000000000L;
    private static final long LEAST_LONG = -9223372036854775808L;
    /** The whole of what CHANCES are parts of. */
    private static final long WHOLE = 1000000000000L;

    private static final int MOST_BYTES = 500;
    private static final int MOST_TOLD = 3;
    private static final int MOST_GROUNDS = 10;
    private static final int MOST_SIDES = 8;
    private static final int MOST_GAMES = 40;
    private static final int MOST_NOTED = 80;
    private static final int MOST_CHOSEN_OF = 60;
    private static final int LAST_YEAR = 59;
    private static final int JUDGES = 8;
    private static final int PARTS = 6;
    private static final int IMAGES = 3;

    /** The sorts of a text, and of what is counted. */
    private static final int LEAGUE = 0;
    private static final int LAW = 1;
    private static final int PLAN = 2;
    private static final int NOTES = 3;

    /** Of a GAME of a PLAN: where plan() names it. Home and guest stand likewise in what is NOTED. */
    private static final int HOME = 0;
    private static final int GUEST = 1;
    private static final int DAY = 2;
    private static final int CROWDED = 3;
    private static final int SOFT = 4;
    private static final int ELSEWHERE = 5;
    private static final int GAME_WIDTH = 6;

    /** Of what is NOTED: where noted() names it. */
    private static final int YEAR = 2;
    private static final int GOALS = 3;
    private static final int AGAINST = 4;
    private static final int CARDS = 5;
    private static final int CARDS_AGAINST = 6;
    private static final int MINUTES = 7;
    private static final int LOUD = 8;
    private static final int JUDGE = 9;
    private static final int NOTE_WIDTH = 10;

    private final Told now;
    private final Told[] images;
    private final Reader reader;
    private final Meet meet;
    private final Fit fit;
    private final Table ranks;
    /** The NOTED of the years last asked for, by YEARS, then as NOTED. */
    private final int[] picked;
    /** Of each GAME, which PARTS are AWAKE in it, as bits. */
    private final int[] awake;

    public HomeGround() {
        now = new Told();
        images = new Told[IMAGES];
        reader = new Reader();
        meet = new Meet();
        fit = new Fit();
        ranks = new Table();
        picked = new int[MOST_NOTED];
        awake = new int[MOST_GAMES];
    }

    // ---- the tape and its texts ----

    public int feed(int a, int b, int c, int d, int e) {
        if (now.length + 20 > MOST_BYTES) {
            return NONE;
        }
        now.addBytes(a);
        now.addBytes(b);
        now.addBytes(c);
        now.addBytes(d);
        now.addBytes(e);
        return now.length;
    }

    public int end(int n) {
        if (n < 0 || n > now.length) {
            return NONE;
        }
        now.length = n;
        return n;
    }

    public int text(int sort, int at) {
        int bytes = now.length;
        int slot = now.slotOf(sort, at);
        now.length = 0;
        now.fault = 0;
        now.place = NONE;
        if (slot == NONE) {
            return NO_SUCH;
        }
        readInto(sort, slot, bytes);
        now.fault = reader.fault;
        now.place = reader.place;
        return now.fault == 0 ? slot : NONE;
    }

    /** A text with a FAULT leaves what stands at the slot, so each one is read into an object of its own. */
    private void readInto(int sort, int slot, int bytes) {
        if (sort == LEAGUE) {
            League league = new League();
            reader.read(now.tape, bytes, sort, league);
            if (reader.fault == 0) {
                now.putLeague(slot, league);
            }
        } else if (sort == LAW) {
            Law law = new Law();
            reader.read(now.tape, bytes, sort, law);
            if (reader.fault == 0) {
                now.putLaw(slot, law);
            }
        } else {
            Plan plan = new Plan();
            reader.read(now.tape, bytes, sort, plan);
            if (reader.fault == 0) {
                now.putPlan(slot, plan);
            }
        }
    }

    public int fault(int what) {
        if (what == 0) {
            return now.fault;
        }
        return what == 1 ? now.place : NONE;
    }

    // ---- what is told ----

    public int league(int league, int what) {
        League told = now.leagueAt(league);
        return told == null ? NONE : told.number(what);
    }

    public int miles(int league, int a, int b) {
        League told = now.leagueAt(league);
        if (told == null || !told.hasGround(a) || !told.hasGround(b)) {
            return NONE;
        }
        return told.apart(a, b);
    }

    public int law(int law, int what) {
        Law told = now.lawAt(law);
        return told == null ? NONE : told.number(what);
    }

    public int plan(int plan, int game, int what) {
        Plan told = now.planAt(plan);
        if (told == null) {
            return NO_SUCH;
        }
        if (game == NONE) {
            return what == 0 ? told.games : NO_SUCH;
        }
        if (!told.hasGame(game) || what < 0 || what >= GAME_WIDTH) {
            return NO_SUCH;
        }
        return told.of(game, what);
    }

    public boolean goes(int league, int plan) {
        return meet.bring(now, league, plan);
    }

    // ---- a GAME ----

    public int worth(int league, int law, int plan, int game, int part) {
        if (!meet.bring(now, league, law, plan) || !meet.plan.hasGame(game)) {
            return NONE;
        }
        meet.weigh(game);
        switch (part) {
            case 6: return meet.edge;
            case 7: return meet.loud;
            case 8: return meet.p;
            case 9: return meet.q;
            default: return isPart(part) ? meet.worthOf(part) : NONE;
        }
    }

    public long chance(int league, int law, int plan, int game, int what) {
        if (what < 0 || what > 3 || !meet.bring(now, league, law, plan) || !meet.plan.hasGame(game)) {
            return NONE;
        }
        meet.weigh(game);
        return meet.outlook(what);
    }

    public int play(int league, int law, int plan, int seed, int year) {
        if (!isYear(year) || !meet.bring(now, league, law, plan)) {
            return NONE;
        }
        int games = meet.plan.games;
        if (now.howMany(NOTES) + games > MOST_NOTED) {
            return NONE;
        }
        Draw draw = new Draw(seed);
        for (int game = 0; game < games; game++) {
            meet.weigh(game);
            playOne(game, year, draw);
        }
        return games;
    }

    private void playOne(int game, int year, Draw draw) {
        int goals = draw.shots(meet.p);
        int against = draw.shots(meet.q);
        int cards = draw.below(4);
        int cardsAgainst = draw.below(4) + (meet.worthOf(4) > 0 ? 1 : 0);
        int soft = meet.plan.of(game, SOFT);
        int minutes = 1 + draw.below(3) + (soft == 1 && goals - against == -1 ? 2 : 0);
        int k = now.newNote();
        now.setNote(k, HOME, meet.plan.of(game, HOME));
        now.setNote(k, GUEST, meet.plan.of(game, GUEST));
        now.setNote(k, YEAR, year);
        now.setNote(k, GOALS, goals);
        now.setNote(k, AGAINST, against);
        now.setNote(k, CARDS, cards);
        now.setNote(k, CARDS_AGAINST, cardsAgainst);
        now.setNote(k, MINUTES, minutes);
        now.setNote(k, LOUD, meet.loud);
        now.setNote(k, JUDGE, soft);
    }

    // ---- what is NOTED ----

    public int note(int home, int guest, int year, int goals, int cards, int minutes, int loud, int judge) {
        boolean sides = isSide(home) && isSide(guest) && home != guest;
        boolean pairs = within(goals, 0, 99) && within(cards, 0, 99);
        boolean others = within(minutes, 0, 19) && within(loud, 0, 999) && isJudge(judge);
        if (!sides || !pairs || !others || !isYear(year) || now.howMany(NOTES) >= MOST_NOTED) {
            return NONE;
        }
        int k = now.newNote();
        now.setNote(k, HOME, home);
        now.setNote(k, GUEST, guest);
        now.setNote(k, YEAR, year);
        now.setNote(k, GOALS, goals / 10);
        now.setNote(k, AGAINST, goals % 10);
        now.setNote(k, CARDS, cards / 10);
        now.setNote(k, CARDS_AGAINST, cards % 10);
        now.setNote(k, MINUTES, minutes);
        now.setNote(k, LOUD, loud);
        now.setNote(k, JUDGE, judge);
        return k;
    }

    public int noted(int k, int what) {
        if (k < 0 || k >= now.howMany(NOTES) || what < 0 || what >= NOTE_WIDTH) {
            return NONE;
        }
        return now.noteOf(k, what);
    }

    public int sum(int from, int to, int what) {
        if (what < 0 || what > 5) {
            return NONE;
        }
        int all = pick(from, to);
        int together = 0;
        for (int i = 0; i < all; i++) {
            together += counted(i, what);
        }
        return together;
    }

    private int counted(int i, int what) {
        int margin = margin(i);
        switch (what) {
            case 0: return 1;
            case 1: return margin > 0 ? 1 : 0;
            case 2: return margin == 0 ? 1 : 0;
            case 3: return margin < 0 ? 1 : 0;
            case 4: return pickedOf(i, GOALS);
            default: return pickedOf(i, AGAINST);
        }
    }

    public int table(int from, int to, int place) {
        fillTable(from, to);
        return ranks.sideAt(place);
    }

    public int points(int from, int to, int side) {
        if (!isSide(side)) {
            return NONE;
        }
        fillTable(from, to);
        return ranks.pointsOf(side);
    }

    private void fillTable(int from, int to) {
        ranks.clear();
        int all = pick(from, to);
        for (int i = 0; i < all; i++) {
            int goals = pickedOf(i, GOALS);
            int against = pickedOf(i, AGAINST);
            ranks.add(pickedOf(i, HOME), goals, against);
            ranks.add(pickedOf(i, GUEST), against, goals);
        }
    }

    public int alone(int from, int to, boolean under) {
        int all = pick(from, to);
        return all == 0 ? NO_SHARE : (int) share(marginsTogether(all), all, under);
    }

    private int marginsTogether(int all) {
        int together = 0;
        for (int i = 0; i < all; i++) {
            together += margin(i);
        }
        return together;
    }

    public long both(int from, int to, int side, boolean under) {
        if (!fitYears(from, to)) {
            return NO_LONG_SHARE;
        }
        if (side == NONE) {
            return share(fit.home(), fit.under(), under);
        }
        return fit.played(side) ? share(fit.strength(side), fit.under(), under) : NO_LONG_SHARE;
    }

    public long off(int from, int to, boolean under) {
        if (!fitYears(from, to)) {
            return NO_LONG_SHARE;
        }
        int all = pick(from, to);
        return share(marginsTogether(all) * fit.under() - all * fit.home(), all * fit.under(), under);
    }

    /** Whether H and STRENGTHS of some YEARS are just one row, which stands in fit then. */
    private boolean fitYears(int from, int to) {
        int all = pick(from, to);
        fit.clear();
        for (int i = 0; i < all; i++) {
            fit.see(pickedOf(i, HOME), pickedOf(i, GUEST));
        }
        if (!fit.arrange()) {
            return false;
        }
        for (int i = 0; i < all; i++) {
            fit.add(pickedOf(i, HOME), pickedOf(i, GUEST), margin(i));
        }
        return fit.solve();
    }

    public int people(int from, int to, int l, boolean under) {
        if (!within(l, 0, 1000)) {
            return NO_SHARE;
        }
        int all = pick(from, to);
        int loud = 0;
        int withPeople = 0;
        int without = 0;
        for (int i = 0; i < all; i++) {
            if (pickedOf(i, LOUD) >= l) {
                loud++;
                withPeople += margin(i);
            } else {
                without += margin(i);
            }
        }
        return lessOther(withPeople, loud, without, all - loud, under);
    }

    public int slope(int from, int to, boolean under) {
        int all = pick(from, to);
        int years = 0;
        int margins = 0;
        int squares = 0;
        int products = 0;
        for (int i = 0; i < all; i++) {
            int year = pickedOf(i, YEAR);
            years += year;
            margins += margin(i);
            squares += year * year;
            products += year * margin(i);
        }
        int below = all * squares - years * years;
        return below == 0 ? NO_SHARE : (int) share(all * products - years * margins, below, under);
    }

    public long odds(int from, int to, int l, boolean all) {
        int games = pick(from, to);
        if (games > MOST_CHOSEN_OF || !within(l, 0, 1000)) {
            return NONE;
        }
        int wins = 0;
        int loud = 0;
        int loudWins = 0;
        for (int i = 0; i < games; i++) {
            int win = margin(i) > 0 ? 1 : 0;
            wins += win;
            if (pickedOf(i, LOUD) >= l) {
                loud++;
                loudWins += win;
            }
        }
        return all ? ways(games, loud) : waysWithAtLeast(games, wins, loud, loudWins);
    }

    public int carded(int from, int to, int judge) {
        int all = pick(from, to);
        int judged = 0;
        int more = 0;
        for (int i = 0; i < all; i++) {
            if (pickedOf(i, JUDGE) == judge) {
                judged++;
                more += pickedOf(i, CARDS_AGAINST) - pickedOf(i, CARDS);
            }
        }
        return judged == 0 ? NO_SHARE : more;
    }

    public int longer(int from, int to, int judge, boolean under) {
        int all = pick(from, to);
        int behind = 0;
        int minutesBehind = 0;
        int ahead = 0;
        int minutesAhead = 0;
        for (int i = 0; i < all; i++) {
            if (pickedOf(i, JUDGE) != judge) {
                continue;
            }
            if (margin(i) == -1) {
                behind++;
                minutesBehind += pickedOf(i, MINUTES);
            } else if (margin(i) == 1) {
                ahead++;
                minutesAhead += pickedOf(i, MINUTES);
            }
        }
        return lessOther(minutesBehind, behind, minutesAhead, ahead, under);
    }

    public int fresh(int side, int from, int k) {
        if (!isSide(side) || !within(k, 1, 40)) {
            return NO_SHARE;
        }
        int all = pick(from, LAST_YEAR);
        int atHome = 0;
        int more = 0;
        for (int i = 0; i < all && atHome < 2 * k; i++) {
            if (pickedOf(i, HOME) == side) {
                int won = pointsBy(margin(i));
                more += atHome < k ? won : -won;
                atHome++;
            }
        }
        return atHome < 2 * k ? NO_SHARE : more;
    }

    // ---- films and bets ----

    public boolean films(int judge, boolean sound, int shown, int gave) {
        if (!isJudge(judge) || !within(shown, 0, 30) || !within(gave, 0, shown)) {
            return false;
        }
        now.setFilms(judge, sound, shown, gave);
        return true;
    }

    public long looser(int judge, boolean all) {
        if (!isJudge(judge)) {
            return NONE;
        }
        int without = now.shownBy(judge, false);
        int shown = without + now.shownBy(judge, true);
        int gaveWithout = now.gaveBy(judge, false);
        int gave = gaveWithout + now.gaveBy(judge, true);
        return all ? ways(shown, without) : waysWithAtLeast(shown, gave, without, gaveWithout);
    }

    public int had(int from, int to, int price) {
        if (!isPrice(price)) {
            return NO_SHARE;
        }
        int all = pick(from, to);
        int together = 0;
        for (int i = 0; i < all; i++) {
            together += margin(i) > 0 ? price - 100 : -100;
        }
        return together;
    }

    public int fixed(int from, int to, int price, int s) {
        if (!isPrice(price) || !within(s, 0, 9999)) {
            return NONE;
        }
        int all = pick(from, to);
        int together = 0;
        for (int i = 0; i < all; i++) {
            together += margin(i) > 0 ? price - 100 : -100;
            if (together < -s) {
                return i + 1;
            }
        }
        return all;
    }

    // ---- what a PLAN leans ----

    public int travel(int league, int plan, int side) {
        if (!meet.bring(now, league, plan) || !meet.league.hasSide(side)) {
            return NONE;
        }
        meet.walk(NONE);
        return meet.walkedBy(side);
    }

    public int runs(int plan, int side, boolean home) {
        Plan told = now.planAt(plan);
        if (told == null || !isSide(side)) {
            return NONE;
        }
        int longest = 0;
        int row = 0;
        for (int game = 0; game < told.games; game++) {
            if (told.of(game, home ? HOME : GUEST) == side) {
                row++;
                longest = Math.max(longest, row);
            } else if (told.plays(game, side)) {
                row = 0;
            }
        }
        return longest;
    }

    public int early(int league, int plan, int n) {
        if (!meet.bring(now, league, plan) || !within(n, 0, meet.plan.games)) {
            return NO_SHARE;
        }
        int together = 0;
        for (int game = 0; game < n; game++) {
            together += meet.lead(game);
        }
        return together;
    }

    public int uneven(int plan) {
        Plan told = now.planAt(plan);
        if (told == null) {
            return NONE;
        }
        int couples = 0;
        for (int a = 0; a < MOST_SIDES; a++) {
            for (int b = a + 1; b < MOST_SIDES; b++) {
                if (told.hosted(a, b) != told.hosted(b, a)) {
                    couples++;
                }
            }
        }
        return couples;
    }

    public int turned(int league, int plan) {
        if (!meet.bring(now, league, plan)) {
            return NONE;
        }
        int least = meet.walk(NONE);
        int turned = NONE;
        for (int game = 0; game < meet.plan.games; game++) {
            int walked = meet.walk(game);
            if (walked < least) {
                least = walked;
                turned = game;
            }
        }
        return turned;
    }

    // ---- which PARTS can be told from one another ----

    public int like(int league, int law, int plan, int part) {
        if (!isPart(part) || !meet.bring(now, league, law, plan)) {
            return NONE;
        }
        wake();
        int same = 0;
        for (int other = 0; other < PARTS; other++) {
            if (wakeAlike(part, other)) {
                same |= 1 << other;
            }
        }
        return same;
    }

    private boolean wakeAlike(int part, int other) {
        for (int game = 0; game < meet.plan.games; game++) {
            int bits = valueAt(awake, game);
            if ((bits >> part & 1) != (bits >> other & 1)) {
                return false;
            }
        }
        return true;
    }

    public int single(int league, int law, int plan, int part) {
        if (!isPart(part) || !meet.bring(now, league, law, plan)) {
            return NONE;
        }
        wake();
        int couples = 0;
        for (int i = 0; i < meet.plan.games; i++) {
            for (int j = i + 1; j < meet.plan.games; j++) {
                if (differJustBy(part, i, j)) {
                    couples++;
                }
            }
        }
        return couples;
    }

    public int felt(int league, int law, int plan, int part, int year, boolean under) {
        if (!isPart(part) || !meet.bring(now, league, law, plan) || pick(year, year) < meet.plan.games) {
            return NO_SHARE;
        }
        wake();
        int couples = 0;
        int more = 0;
        for (int i = 0; i < meet.plan.games; i++) {
            for (int j = i + 1; j < meet.plan.games; j++) {
                if (differJustBy(part, i, j)) {
                    couples++;
                    boolean first = (valueAt(awake, i) >> part & 1) == 1;
                    more += first ? margin(i) - margin(j) : margin(j) - margin(i);
                }
            }
        }
        return couples == 0 ? NO_SHARE : (int) share(more, couples, under);
    }

    private boolean differJustBy(int part, int i, int j) {
        return (valueAt(awake, i) ^ valueAt(awake, j)) == 1 << part;
    }

    private void wake() {
        for (int game = 0; game < meet.plan.games && game < awake.length; game++) {
            meet.weigh(game);
            int bits = 0;
            for (int part = 0; part < PARTS; part++) {
                if (meet.worthOf(part) > 0) {
                    bits |= 1 << part;
                }
            }
            awake[game] = bits;
        }
    }

    // ---- what a rule and a bet would be worth ----

    public long rule(int league, int law, int other, int plan) {
        if (!meet.bring(now, league, other, plan)) {
            return LEAST_LONG;
        }
        long hopes = meet.hopes();
        return meet.bring(now, league, law, plan) ? meet.hopes() - hopes : LEAST_LONG;
    }

    public long less(int league, int law, int plan, int part) {
        if (!isPart(part) || !meet.bring(now, league, law, plan)) {
            return LEAST_LONG;
        }
        long more = 0;
        for (int game = 0; game < meet.plan.games; game++) {
            meet.weigh(game);
            long hope = meet.outlook(3);
            meet.drop(game, part);
            more += meet.outlook(3) - hope;
        }
        return more;
    }

    public long bet(int league, int law, int plan, int game, int price) {
        if (!isPrice(price) || !meet.bring(now, league, law, plan) || !meet.plan.hasGame(game)) {
            return LEAST_LONG;
        }
        meet.weigh(game);
        return gain(meet.outlook(0), price);
    }

    public int best(int league, int law, int plan, int price) {
        if (!isPrice(price) || !meet.bring(now, league, law, plan)) {
            return NONE;
        }
        long greatest = 0;
        int best = NONE;
        for (int game = 0; game < meet.plan.games; game++) {
            meet.weigh(game);
            long gain = gain(meet.outlook(0), price);
            if (gain > greatest) {
                greatest = gain;
                best = game;
            }
        }
        return best;
    }

    public int fair(int league, int law, int plan, int game) {
        if (!meet.bring(now, league, law, plan) || !meet.plan.hasGame(game)) {
            return NONE;
        }
        meet.weigh(game);
        long chance = meet.outlook(0);
        for (int price = 101; price <= 999; price++) {
            if (gain(chance, price) >= 0) {
                return price;
            }
        }
        return NONE;
    }

    private static long gain(long chance, int price) {
        return chance * price - 100 * WHOLE;
    }

    // ---- counts and images ----

    public int count(int what) {
        return what < LEAGUE || what > NOTES ? NO_SUCH : now.howMany(what);
    }

    public boolean image(int k) {
        if (k < 0 || k >= images.length) {
            return false;
        }
        Told image = images[k];
        if (image == null) {
            image = new Told();
            images[k] = image;
        }
        image.become(now);
        return true;
    }

    public boolean again(int k) {
        if (k < 0 || k >= images.length) {
            return false;
        }
        Told image = images[k];
        if (image == null) {
            return false;
        }
        now.become(image);
        return true;
    }

    // ---- the NOTED of some YEARS ----

    /** Picks what is NOTED of some YEARS, by YEARS, then as NOTED: how many. */
    private int pick(int from, int to) {
        int all = 0;
        for (int k = 0; k < now.howMany(NOTES) && all < picked.length; k++) {
            int year = now.noteOf(k, YEAR);
            if (!within(year, from, to)) {
                continue;
            }
            int i = all;
            for (; i > 0 && now.noteOf(picked[i - 1], YEAR) > year; i--) {
                picked[i] = picked[i - 1];
            }
            picked[i] = k;
            all++;
        }
        return all;
    }

    private int pickedOf(int i, int what) {
        return now.noteOf(valueAt(picked, i), what);
    }

    private int margin(int i) {
        return pickedOf(i, GOALS) - pickedOf(i, AGAINST);
    }

    // ---- what may be asked for ----

    private static boolean within(int number, int least, int most) {
        return number >= least && number <= most;
    }

    private static boolean isSide(int side) {
        return within(side, 0, MOST_SIDES - 1);
    }

    private static boolean isJudge(int judge) {
        return within(judge, 0, JUDGES - 1);
    }

    private static boolean isYear(int year) {
        return within(year, 0, LAST_YEAR);
    }

    private static boolean isPart(int part) {
        return within(part, 0, PARTS - 1);
    }

    private static boolean isPrice(int price) {
        return within(price, 101, 999);
    }

    // ---- rows and numbers ----

    private static int valueAt(int[] row, int k) {
        return k >= 0 && k < row.length ? row[k] : 0;
    }

    private static void setAt(int[] row, int k, int value) {
        if (k >= 0 && k < row.length) {
            row[k] = value;
        }
    }

    private static int cut(int number, int by) {
        return by > 0 ? number / by : 0;
    }

    private static int pointsBy(int margin) {
        if (margin > 0) {
            return 3;
        }
        return margin == 0 ? 1 : 0;
    }

    /** Of a fraction in least terms what stands above the line, or under it (above 0). */
    private static long share(long over, long below, boolean under) {
        long common = common(over, below);
        if (common == 0) {
            return 0;
        }
        long signed = below < 0 ? -common : common;
        return under ? below / signed : over / signed;
    }

    private static long common(long a, long b) {
        long greater = Math.abs(a);
        long lesser = Math.abs(b);
        // of two longs no rest is taken more than some 91 times
        for (int i = 0; i < 100 && lesser != 0; i++) {
            long rest = greater % lesser;
            greater = lesser;
            lesser = rest;
        }
        return greater;
    }

    /** over / below less otherOver / otherBelow; there is none if one of both is of none. */
    private static int lessOther(int over, int below, int otherOver, int otherBelow, boolean under) {
        if (below == 0 || otherBelow == 0) {
            return NO_SHARE;
        }
        return (int) share(over * otherBelow - otherOver * below, below * otherBelow, under);
    }

    /** All ways to choose some of at most 60: so few that no step leaves a long. */
    private static long ways(int of, int chosen) {
        if (chosen < 0 || chosen > of) {
            return 0;
        }
        int fewer = Math.min(chosen, of - chosen);
        long all = 1;
        for (int i = 1; i <= fewer; i++) {
            all = all * (of - fewer + i) / i;
        }
        return all;
    }

    /** In how many of all ways to choose some there are at least so many of the marked ones. */
    private static long waysWithAtLeast(int of, int marked, int chosen, int least) {
        long all = 0;
        for (int i = least; i <= marked; i++) {
            all += ways(marked, i) * ways(of - marked, chosen - i);
        }
        return all;
    }

    // ---- the classes ----

    /** All that is told and NOTED. What a text told is never changed, so images share it. */
    private static final class Told {
        private final League[] leagues = new League[MOST_TOLD];
        private final Law[] laws = new Law[MOST_TOLD];
        private final Plan[] plans = new Plan[MOST_TOLD];
        private final int[] counts = new int[4];
        private final int[] notes = new int[MOST_NOTED * NOTE_WIDTH];
        private final int[] shown = new int[2 * JUDGES];
        private final int[] gave = new int[2 * JUDGES];
        private final byte[] tape = new byte[MOST_BYTES];
        private int length = 0;
        private int fault = 0;
        private int place = NONE;

        int howMany(int what) {
            return valueAt(counts, what);
        }

        void addBytes(int number) {
            for (int shift = 24; shift >= 0 && length < tape.length; shift -= 8) {
                tape[length] = (byte) (number >>> shift);
                length++;
            }
        }

        /** Where a text of a sort comes to stand; NONE: nowhere. */
        int slotOf(int sort, int at) {
            if (sort < LEAGUE || sort > PLAN) {
                return NONE;
            }
            int many = howMany(sort);
            if (at == NONE) {
                return many < MOST_TOLD ? many : NONE;
            }
            return at >= 0 && at < many ? at : NONE;
        }

        private void grow(int sort, int slot) {
            setAt(counts, sort, Math.max(howMany(sort), slot + 1));
        }

        void putLeague(int slot, League league) {
            if (slot >= 0 && slot < leagues.length) {
                leagues[slot] = league;
                grow(LEAGUE, slot);
            }
        }

        void putLaw(int slot, Law law) {
            if (slot >= 0 && slot < laws.length) {
                laws[slot] = law;
                grow(LAW, slot);
            }
        }

        void putPlan(int slot, Plan plan) {
            if (slot >= 0 && slot < plans.length) {
                plans[slot] = plan;
                grow(PLAN, slot);
            }
        }

        League leagueAt(int k) {
            return k >= 0 && k < leagues.length ? leagues[k] : null;
        }

        Law lawAt(int k) {
            return k >= 0 && k < laws.length ? laws[k] : null;
        }

        Plan planAt(int k) {
            return k >= 0 && k < plans.length ? plans[k] : null;
        }

        int newNote() {
            int k = howMany(NOTES);
            setAt(counts, NOTES, k + 1);
            return k;
        }

        void setNote(int k, int what, int value) {
            setAt(notes, NOTE_WIDTH * k + what, value);
        }

        int noteOf(int k, int what) {
            return valueAt(notes, NOTE_WIDTH * k + what);
        }

        private int filmOf(int judge, boolean sound) {
            return 2 * judge + (sound ? 1 : 0);
        }

        void setFilms(int judge, boolean sound, int many, int given) {
            setAt(shown, filmOf(judge, sound), many);
            setAt(gave, filmOf(judge, sound), given);
        }

        int shownBy(int judge, boolean sound) {
            return valueAt(shown, filmOf(judge, sound));
        }

        int gaveBy(int judge, boolean sound) {
            return valueAt(gave, filmOf(judge, sound));
        }

        void become(Told other) {
            for (int k = 0; k < MOST_TOLD; k++) {
                leagues[k] = other.leagues[k];
                laws[k] = other.laws[k];
                plans[k] = other.plans[k];
            }
            System.arraycopy(other.counts, 0, counts, 0, counts.length);
            System.arraycopy(other.notes, 0, notes, 0, notes.length);
            System.arraycopy(other.shown, 0, shown, 0, shown.length);
            System.arraycopy(other.gave, 0, gave, 0, gave.length);
            System.arraycopy(other.tape, 0, tape, 0, tape.length);
            length = other.length;
            fault = other.fault;
            place = other.place;
        }
    }

    /** What a text tells. A form is 10 times the sort and which of that sort's lines it is (Reader.wordOf). */
    private abstract static class Kind {
        /** Whether no further one of what a line tells can be. */
        abstract boolean isFull(int form);

        abstract int leastOf(int form, int number);

        abstract int mostOf(int form, int number);

        /** Takes a line in which all numbers can be. */
        abstract void take(int form, int a, int b, int c);
    }

    private static final class League extends Kind {
        private static final int GROUND = 0;
        private static final int SIDE = 1;
        private static final int HEIGHT = 10;
        private static final int TRACK = 20;
        private static final int CROWD = 30;
        private static final int OWN = 40;
        private static final int STRENGTH = 50;

        /** All but the MILES, where league() names it. */
        private final int[] row = new int[60];
        private final int[] distances = new int[MOST_GROUNDS * MOST_GROUNDS];
        private int grounds = 0;
        private int sides = 0;

        boolean isFull(int form) {
            if (form == GROUND) {
                return grounds >= MOST_GROUNDS;
            }
            return form == SIDE && sides >= MOST_SIDES;
        }

        int leastOf(int form, int number) {
            return 0;
        }

        int mostOf(int form, int number) {
            if (form == GROUND) {
                return number == 2 ? 999 : 99;
            }
            if (form == SIDE) {
                return number == 0 ? grounds - 1 : 50;
            }
            return number == 2 ? 9999 : grounds - 1;
        }

        void take(int form, int a, int b, int c) {
            if (form == GROUND) {
                setAt(row, HEIGHT + grounds, a);
                setAt(row, TRACK + grounds, b);
                setAt(row, CROWD + grounds, c);
                grounds++;
            } else if (form == SIDE) {
                setAt(row, OWN + sides, a);
                setAt(row, STRENGTH + sides, b);
                sides++;
            } else {
                setAt(distances, MOST_GROUNDS * a + b, c);
                setAt(distances, MOST_GROUNDS * b + a, c);
            }
        }

        boolean hasGround(int ground) {
            return ground >= 0 && ground < grounds;
        }

        boolean hasSide(int side) {
            return side >= 0 && side < sides;
        }

        int number(int what) {
            if (what == 0) {
                return grounds;
            }
            if (what == 1) {
                return sides;
            }
            if (what < HEIGHT || what >= row.length) {
                return NONE;
            }
            boolean there = what < OWN ? hasGround(what % 10) : hasSide(what % 10);
            return there ? row[what] : NONE;
        }

        int height(int ground) {
            return valueAt(row, HEIGHT + ground);
        }

        /** How LOUD the people of a GROUND are. */
        int noise(int ground) {
            return cut(valueAt(row, CROWD + ground), 1 + valueAt(row, TRACK + ground));
        }

        int own(int side) {
            return valueAt(row, OWN + side);
        }

        int strength(int side) {
            return valueAt(row, STRENGTH + side);
        }

        int apart(int a, int b) {
            return valueAt(distances, MOST_GROUNDS * a + b);
        }
    }

    private static final class Law extends Kind {
        private static final int BASE = 10;
        private static final int KNOWN = 11;
        private static final int MUCH = 10;
        private static final int PER = 20;
        private static final int MOST_EACH = 50;

        /** All that it tells, where law() names it. */
        private final int[] row = new int[PER + PARTS];

        Law() {
            row[0] = 30;
            for (int part = 1; part < PARTS; part++) {
                row[PER + part] = 1;
            }
        }

        boolean isFull(int form) {
            return false;
        }

        int leastOf(int form, int number) {
            return number == 0 ? 0 : 1;
        }

        int mostOf(int form, int number) {
            if (number == 0) {
                return form == BASE ? 100 : MOST_EACH;
            }
            switch (form - KNOWN) {
                case 1: return 9999;
                case 2: return 30;
                case 3: return 999;
                case 4: return 999;
                default: return 99;
            }
        }

        void take(int form, int a, int b, int c) {
            if (form == BASE) {
                row[0] = a;
                return;
            }
            int part = form - KNOWN;
            setAt(row, MUCH + part, a);
            if (part > 0) {
                setAt(row, PER + part, b);
            }
        }

        int number(int what) {
            boolean much = what >= MUCH && what < MUCH + PARTS;
            boolean per = what > PER && what < PER + PARTS;
            return what == 0 || much || per ? valueAt(row, what) : NONE;
        }

        int base() {
            return row[0];
        }

        int per(int part) {
            return valueAt(row, PER + part);
        }

        /** So much so many TIMES, as far as a PART goes. */
        int worthOf(int part, int times) {
            return Math.min(MOST_EACH, valueAt(row, MUCH + part) * times);
        }
    }

    private static final class Plan extends Kind {
        private static final int DAY_LINE = 20;
        private static final int PEOPLE_LINE = 21;
        private static final int EMPTY_LINE = 22;
        private static final int SOFT_LINE = 23;
        private static final int STRICT_LINE = 24;
        private static final int AT_LINE = 25;
        private static final int GAME_LINE = 26;
        /** What REST is without a GAME ahead. */
        private static final int FULL_REST = 30;

        private final int[] rows = new int[MOST_GAMES * GAME_WIDTH];
        private int games = 0;
        private int topSide = NONE;
        private int topGround = NONE;
        /** How the next GAME will be. */
        private int day = 0;
        private int crowded = 1;
        private int soft = 0;
        private int elsewhere = NONE;

        boolean isFull(int form) {
            return form == GAME_LINE && games >= MOST_GAMES;
        }

        int leastOf(int form, int number) {
            return form == DAY_LINE ? day : 0;
        }

        int mostOf(int form, int number) {
            switch (form) {
                case DAY_LINE: return 999;
                case AT_LINE: return MOST_GROUNDS - 1;
                default: return MOST_SIDES - 1;
            }
        }

        void take(int form, int a, int b, int c) {
            switch (form) {
                case DAY_LINE: day = a; break;
                case PEOPLE_LINE: crowded = 1; break;
                case EMPTY_LINE: crowded = 0; break;
                case SOFT_LINE: soft = 1; break;
                case STRICT_LINE: soft = 0; break;
                case AT_LINE: elsewhere = a; break;
                default: addGame(a, b); break;
            }
        }

        private void addGame(int home, int guest) {
            int start = GAME_WIDTH * games;
            setAt(rows, start + HOME, home);
            setAt(rows, start + GUEST, guest);
            setAt(rows, start + DAY, day);
            setAt(rows, start + CROWDED, crowded);
            setAt(rows, start + SOFT, soft);
            setAt(rows, start + ELSEWHERE, elsewhere);
            games++;
            topSide = Math.max(topSide, Math.max(home, guest));
            topGround = Math.max(topGround, elsewhere);
            elsewhere = NONE;
        }

        boolean fits(League league) {
            return topSide < league.sides && topGround < league.grounds;
        }

        boolean hasGame(int game) {
            return game >= 0 && game < games;
        }

        int of(int game, int what) {
            return valueAt(rows, GAME_WIDTH * game + what);
        }

        boolean plays(int game, int side) {
            return of(game, HOME) == side || of(game, GUEST) == side;
        }

        int restOf(int game, int side) {
            for (int ahead = game - 1; ahead >= 0; ahead--) {
                if (plays(ahead, side)) {
                    return of(game, DAY) - of(ahead, DAY);
                }
            }
            return FULL_REST;
        }

        /** How often a SIDE was at home to another one. */
        int hosted(int host, int visitor) {
            int often = 0;
            for (int game = 0; game < games; game++) {
                if (of(game, HOME) == host && of(game, GUEST) == visitor) {
                    often++;
                }
            }
            return often;
        }
    }

    /** Reads a text line by line. */
    private static final class Reader {
        private static final int END = 0;
        private static final int WORD = 1;
        private static final int NUMBER = 2;
        private static final int STOP = 3;
        private static final int WRONG = 4;
        private static final int MOST_DIGITS = 4;
        /** Of one line. */
        private static final int MOST_NUMBERS = 3;

        private byte[] tape = new byte[0];
        private int length = 0;
        private int next = 0;
        /** The latest token: its sort, its first byte's place, its value if it is a NUMBER. */
        private int token = END;
        private int start = 0;
        private int value = 0;
        private final int[] numbers = new int[MOST_NUMBERS];
        private final int[] places = new int[MOST_NUMBERS];
        private int fault = 0;
        private int place = NONE;

        void read(byte[] bytes, int many, int sort, Kind kind) {
            tape = bytes;
            length = Math.min(many, bytes.length);
            next = 0;
            fault = 0;
            place = NONE;
            // a line has a byte at least, so there are no more lines than bytes
            for (int line = 0; line <= length; line++) {
                step();
                if (token == END) {
                    return;
                }
                if (!readLine(sort, kind)) {
                    fail(1, start);
                    return;
                }
            }
        }

        private void fail(int which, int where) {
            fault = which;
            place = where;
        }

        /** Reads on from a line's first token; false: no text goes on with the latest token. */
        private boolean readLine(int sort, Kind kind) {
            int first = start;
            int form = token == WORD ? formOf(sort) : NONE;
            if (form == NONE) {
                return false;
            }
            int many = numbersOf(form);
            for (int k = 0; k < MOST_NUMBERS; k++) {
                numbers[k] = 0;
                if (k < many) {
                    step();
                    if (token != NUMBER) {
                        return false;
                    }
                    numbers[k] = value;
                    places[k] = start;
                }
            }
            step();
            if (token != STOP) {
                return false;
            }
            // behind a first FAULT only one of the text's form can still count
            if (fault == 0) {
                check(form, many, first, kind);
            }
            return true;
        }

        private void check(int form, int many, int first, Kind kind) {
            if (kind.isFull(form)) {
                fail(3, first);
                return;
            }
            for (int k = 0; k < many && k < MOST_NUMBERS; k++) {
                boolean twice = k == 1 && isCouple(form) && numbers[1] == numbers[0];
                if (twice || numbers[k] < kind.leastOf(form, k) || numbers[k] > kind.mostOf(form, k)) {
                    fail(2, places[k]);
                    return;
                }
            }
            kind.take(form, numbers[0], numbers[1], numbers[2]);
        }

        /** The lines of each sort of text: their words. */
        private static String wordOf(int form) {
            switch (form) {
                case 0: return "ground";
                case 1: return "side";
                case 2: return "miles";
                case 10: return "base";
                case 11: return "known";
                case 12: return "miles";
                case 13: return "rest";
                case 14: return "sung";
                case 15: return "judged";
                case 16: return "height";
                case 20: return "day";
                case 21: return "people";
                case 22: return "empty";
                case 23: return "soft";
                case 24: return "strict";
                case 25: return "at";
                case 26: return "game";
                default: return "";
            }
        }

        private static int numbersOf(int form) {
            switch (form) {
                case 0: case 2: return 3;
                case 10: case 11: case 20: case 25: return 1;
                case 21: case 22: case 23: case 24: return 0;
                default: return 2;
            }
        }

        /** Whether the second number of a line must be another one than the first. */
        private static boolean isCouple(int form) {
            return form == 2 || form == 26;
        }

        private int formOf(int sort) {
            for (int k = 0; k < 10; k++) {
                if (spells(wordOf(10 * sort + k))) {
                    return 10 * sort + k;
                }
            }
            return NONE;
        }

        private boolean spells(String word) {
            if (word.length() != next - start) {
                return false;
            }
            for (int i = 0; i < word.length(); i++) {
                if (word.charAt(i) != signAt(start + i)) {
                    return false;
                }
            }
            return true;
        }

        /** The byte at a place, NONE behind the end. */
        private int signAt(int at) {
            return at >= 0 && at < length && at < tape.length ? tape[at] & 255 : NONE;
        }

        private static boolean isBlank(int sign) {
            return sign == 10 || sign == 32;
        }

        private static boolean isLetter(int sign) {
            return sign >= 'a' && sign <= 'z';
        }

        private static boolean isDigit(int sign) {
            return sign >= '0' && sign <= '9';
        }

        /** Goes to the next token. */
        private void step() {
            while (next < length && isBlank(signAt(next))) {
                next++;
            }
            start = next;
            int sign = signAt(start);
            if (sign == NONE) {
                token = END;
            } else if (isLetter(sign)) {
                token = WORD;
                while (next < length && isLetter(signAt(next))) {
                    next++;
                }
            } else if (isDigit(sign)) {
                stepNumber();
            } else {
                token = sign == ';' ? STOP : WRONG;
                next++;
            }
        }

        private void stepNumber() {
            value = 0;
            for (; next < length && isDigit(signAt(next)); next++) {
                if (next - start < MOST_DIGITS) {
                    value = 10 * value + signAt(next) - '0';
                }
            }
            token = next - start <= MOST_DIGITS ? NUMBER : WRONG;
        }
    }

    /** A PLAN in a LEAGUE, perhaps by a LAW: what its GAMES are worth, and how far its SIDES go. */
    private static final class Meet {
        private League league = new League();
        private Law law = new Law();
        private Plan plan = new Plan();
        /** Of the GAME last weighed. */
        private final int[] parts = new int[PARTS];
        private int edge = 0;
        private int loud = 0;
        private int p = 0;
        private int q = 0;
        private final int[] stands = new int[MOST_SIDES];
        private final int[] walked = new int[MOST_SIDES];

        /** False: there is none such (of any), or the PLAN does not GO. */
        boolean bring(Told told, int leagueAt, int planAt) {
            League broughtLeague = told.leagueAt(leagueAt);
            Plan broughtPlan = told.planAt(planAt);
            if (broughtLeague == null || broughtPlan == null || !broughtPlan.fits(broughtLeague)) {
                return false;
            }
            league = broughtLeague;
            plan = broughtPlan;
            return true;
        }

        boolean bring(Told told, int leagueAt, int lawAt, int planAt) {
            Law broughtLaw = told.lawAt(lawAt);
            if (broughtLaw == null || !bring(told, leagueAt, planAt)) {
                return false;
            }
            law = broughtLaw;
            return true;
        }

        int worthOf(int part) {
            return valueAt(parts, part);
        }

        /** By how much the home SIDE of a GAME is the stronger one. */
        int lead(int game) {
            return league.strength(plan.of(game, HOME)) - league.strength(plan.of(game, GUEST));
        }

        private int groundOf(int game, int home) {
            int elsewhere = plan.of(game, ELSEWHERE);
            return elsewhere == NONE ? league.own(home) : elsewhere;
        }

        void weigh(int game) {
            int home = plan.of(game, HOME);
            int guest = plan.of(game, GUEST);
            int ground = groundOf(game, home);
            int away = league.own(guest);
            loud = plan.of(game, CROWDED) == 1 ? league.noise(ground) : 0;
            parts[0] = law.worthOf(0, ground == league.own(home) && ground != away ? 1 : 0);
            parts[1] = law.worthOf(1, cut(league.apart(away, ground), law.per(1)));
            boolean tired = plan.restOf(game, guest) < law.per(2) && plan.restOf(game, home) >= law.per(2);
            parts[2] = law.worthOf(2, tired ? 1 : 0);
            parts[3] = law.worthOf(3, cut(loud, law.per(3)));
            parts[4] = law.worthOf(4, plan.of(game, SOFT) == 1 ? cut(loud, law.per(4)) : 0);
            int climb = Math.max(0, league.height(ground) - league.height(away));
            parts[5] = law.worthOf(5, cut(climb, law.per(5)));
            aim(game);
        }

        /** As if a PART of the GAME last weighed were 0. */
        void drop(int game, int part) {
            setAt(parts, part, 0);
            aim(game);
        }

        private void aim(int game) {
            edge = 0;
            for (int part = 0; part < PARTS; part++) {
                edge += parts[part];
            }
            p = percent(law.base() + lead(game) + edge);
            q = percent(law.base() - lead(game));
        }

        private static int percent(int number) {
            return Math.max(0, Math.min(100, number));
        }

        /** The CHANCE that of three shots so many go in, in parts of 10 to the 6. */
        private static long shots(int percent, int in) {
            long all = in == 1 || in == 2 ? 3 : 1;
            for (int shot = 0; shot < 3; shot++) {
                all *= shot < in ? percent : 100 - percent;
            }
            return all;
        }

        /** CHANCES, 0 to 2, HOPE (3) of the GAME last weighed. */
        long outlook(int what) {
            long win = 0;
            long even = 0;
            for (int goals = 0; goals <= 3; goals++) {
                even += shots(p, goals) * shots(q, goals);
                for (int fewer = 0; fewer < goals; fewer++) {
                    win += shots(p, goals) * shots(q, fewer);
                }
            }
            switch (what) {
                case 0: return win;
                case 1: return even;
                case 2: return WHOLE - win - even;
                default: return 3 * win + even;
            }
        }

        long hopes() {
            long together = 0;
            for (int game = 0; game < plan.games; game++) {
                weigh(game);
                together += outlook(3);
            }
            return together;
        }

        /** TRAVEL of each SIDE, home and guest of a GAME exchanged (NONE: of none): all together. */
        int walk(int exchanged) {
            for (int side = 0; side < MOST_SIDES; side++) {
                stands[side] = league.own(side);
                walked[side] = 0;
            }
            for (int game = 0; game < plan.games; game++) {
                int home = plan.of(game, game == exchanged ? GUEST : HOME);
                int guest = plan.of(game, game == exchanged ? HOME : GUEST);
                int ground = groundOf(game, home);
                go(home, ground);
                go(guest, ground);
            }
            int together = 0;
            for (int side = 0; side < MOST_SIDES; side++) {
                go(side, league.own(side));
                together += walked[side];
            }
            return together;
        }

        private void go(int side, int ground) {
            if (side >= 0 && side < MOST_SIDES) {
                walked[side] += league.apart(stands[side], ground);
                stands[side] = ground;
            }
        }

        int walkedBy(int side) {
            return valueAt(walked, side);
        }
    }

    /** The numbers that a SEASON draws. */
    private static final class Draw {
        private int x;

        Draw(int seed) {
            x = seed;
        }

        int below(int n) {
            x = x * 1103515245 + 12345;
            return n > 0 ? (x >>> 16) % n : 0;
        }

        /** How many of three shots go in. */
        int shots(int percent) {
            int in = 0;
            for (int shot = 0; shot < 3; shot++) {
                if (below(100) < percent) {
                    in++;
                }
            }
            return in;
        }
    }

    /** How SIDES stand to one another. */
    private static final class Table {
        private final int[] games = new int[MOST_SIDES];
        private final int[] won = new int[MOST_SIDES];
        private final int[] leads = new int[MOST_SIDES];
        private final int[] scored = new int[MOST_SIDES];

        void clear() {
            for (int side = 0; side < MOST_SIDES; side++) {
                games[side] = 0;
                won[side] = 0;
                leads[side] = 0;
                scored[side] = 0;
            }
        }

        void add(int side, int goals, int against) {
            if (side >= 0 && side < MOST_SIDES) {
                games[side]++;
                won[side] += pointsBy(goals - against);
                leads[side] += goals - against;
                scored[side] += goals;
            }
        }

        int pointsOf(int side) {
            return valueAt(won, side);
        }

        int sideAt(int place) {
            for (int side = 0; side < MOST_SIDES; side++) {
                if (games[side] > 0 && placeOf(side) == place) {
                    return side;
                }
            }
            return NONE;
        }

        private int placeOf(int side) {
            int before = 0;
            for (int other = 0; other < MOST_SIDES; other++) {
                if (valueAt(games, other) > 0 && isAhead(other, side)) {
                    before++;
                }
            }
            return before;
        }

        private boolean isAhead(int a, int b) {
            if (valueAt(won, a) != valueAt(won, b)) {
                return valueAt(won, a) > valueAt(won, b);
            }
            if (valueAt(leads, a) != valueAt(leads, b)) {
                return valueAt(leads, a) > valueAt(leads, b);
            }
            if (valueAt(scored, a) != valueAt(scored, b)) {
                return valueAt(scored, a) > valueAt(scored, b);
            }
            return a < b;
        }
    }

    /**
     * H and STRENGTHS of least squares, as fractions over one number. Unknown 0 is H; the least SIDE that played
     * has none, for its STRENGTH is 0. With at most 80 GAMES of at most 6 SIDES no product leaves a long: the
     * greatest is below 10 to the 18.
     */
    private static final class Fit {
        private static final int MOST_FITTED = 6;

        /** The unknown of a SIDE: 0 if it has none, NONE if it did not play. */
        private final int[] unknowns = new int[MOST_SIDES];
        private final long[][] rows = new long[MOST_FITTED][MOST_FITTED + 1];
        private int many = 0;

        void clear() {
            for (int side = 0; side < MOST_SIDES; side++) {
                unknowns[side] = NONE;
            }
        }

        void see(int home, int guest) {
            setAt(unknowns, home, 0);
            setAt(unknowns, guest, 0);
        }

        /** Gives each SIDE that was seen its unknown; false: they are too many, or none. */
        boolean arrange() {
            many = 0;
            for (int side = 0; side < MOST_SIDES; side++) {
                if (unknowns[side] != NONE) {
                    unknowns[side] = many;
                    many++;
                }
            }
            for (int i = 0; i < MOST_FITTED; i++) {
                for (int j = 0; j <= MOST_FITTED; j++) {
                    rows[i][j] = 0;
                }
            }
            return many > 0 && many <= MOST_FITTED;
        }

        private int factor(int unknown, int home, int guest) {
            if (unknown == 0 || unknown == valueAt(unknowns, home)) {
                return 1;
            }
            return unknown == valueAt(unknowns, guest) ? -1 : 0;
        }

        void add(int home, int guest, int margin) {
            for (int i = 0; i < many && i < MOST_FITTED; i++) {
                int factor = factor(i, home, guest);
                for (int j = 0; j < many && j < MOST_FITTED; j++) {
                    rows[i][j] += factor * factor(j, home, guest);
                }
                rows[i][MOST_FITTED] += factor * margin;
            }
        }

        /**
         * Takes each unknown out of all other rows, without fractions: each division leaves no rest. The leading
         * minors of such sums of squares are 0 only if more than one row of unknowns has the least sum.
         */
        boolean solve() {
            long before = 1;
            for (int k = 0; k < many && k < MOST_FITTED; k++) {
                long pivot = rows[k][k];
                if (pivot == 0) {
                    return false;
                }
                for (int i = 0; i < many && i < MOST_FITTED; i++) {
                    if (i != k) {
                        takeOut(i, k, pivot, before);
                    }
                }
                before = pivot;
            }
            return true;
        }

        private void takeOut(int i, int k, long pivot, long before) {
            if (before == 0) {
                return;
            }
            long factor = rows[i][k];
            for (int j = 0; j <= MOST_FITTED; j++) {
                rows[i][j] = (pivot * rows[i][j] - factor * rows[k][j]) / before;
            }
        }

        boolean played(int side) {
            return side >= 0 && side < MOST_SIDES && unknowns[side] != NONE;
        }

        /** What stands under the line of all. */
        long under() {
            return rows[0][0];
        }

        long home() {
            return rows[0][MOST_FITTED];
        }

        long strength(int side) {
            int unknown = valueAt(unknowns, side);
            return unknown > 0 && unknown < MOST_FITTED ? rows[unknown][MOST_FITTED] : 0;
        }
    }
}
