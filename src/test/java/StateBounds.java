import java.lang.reflect.InvocationTargetException;
import java.lang.reflect.Method;
import java.util.ArrayList;
import java.util.Arrays;
import java.util.Comparator;
import java.util.HashMap;
import java.util.LinkedHashMap;
import java.util.List;
import java.util.Map;
import java.util.Random;
import java.util.function.Consumer;
import java.util.function.Supplier;
import java.util.function.ToLongFunction;

/**
 * Promises 45 to 47, and what stays as it was: behind each refused call, and behind each call that only asks, all that
 * can be asked is answered as without it. An object is made anew for each group of questions, so that none is used for
 * more than 512 calls, and so that a question may change what it asks for (the tape).
 */
final class StateBounds extends Bounds {
    private static final List<String> CHANGING = List.of("feed", "end", "text", "play", "note", "films", "image", "again");
    private static final int[] NUMBERS = {0, 1, 2, -1, -2, 3, 7, 8, 9, 10, 40, 41, 59, 60, 80, 100, 101, 999, 1000, 1001, 10000,
        MIN, MAX};
    private static final int NO_IMAGE = -1;

    private static int compared = 0;

    private StateBounds() { }

    static void all() {
        calls();
        counts();
        countsOfFull();
        countRefused();
        image();
        imageRefused();
        again();
        againRefused();
        refusedBySome();
        refusedByFull();
        refusedText();
        inAnyOrder();
        is("questions compared", compared > 10000, true);
    }

    // ---- objects ----

    private static final String BIG = "ground 1 2 3;ground 44 5 66;ground 7 88 999;ground 0 0 9;side 0 10;side 1 25;side 3 50;"
        + "side 1 7;miles 0 1 10;miles 1 3 9999;miles 2 3 5;";

    private static final String PLAYS = "game 0 1;day 3;soft;game 1 0;empty;at 3;day 9;game 2 3;people;strict;game 3 0;";

    private static final String MORE = "game 2 1;day 10;empty;game 3 2;people;soft;at 2;game 0 1;day 30;game 1 0;";

    private static HomeGround young() {
        HomeGround x = new HomeGround();
        Due.text(x, LEAGUE, NONE, "ground 5 0 77;side 0 3;side 0 4;");
        Due.text(x, LAW, NONE, "base 21;known 3;");
        Due.text(x, PLAN, NONE, "day 2;game 1 0;");
        x.note(4, 5, 6, 78, 9, 1, 2, 3);
        x.note(5, 4, 0, 9, 0, 19, 0, 7);
        x.films(0, false, 4, 2);
        x.films(5, true, 3, 3);
        Due.text(x, LAW, 0, "  known 51;");
        Due.feed(x, "base 77;sung 1 2;");
        return x;
    }

    /** With room for more of all, a FAULT, bytes on the tape, images 0 and 1. */
    private static HomeGround some() {
        HomeGround x = young();
        x.image(0);
        x.end(0);
        Due.text(x, LEAGUE, NONE, BIG);
        Due.text(x, LAW, NONE, "base 40;known 5;miles 2 100;rest 7 5;sung 3 30;judged 5 40;height 4 20;");
        Due.text(x, PLAN, NONE, PLAYS);
        x.play(1, 1, 1, 7, 30);
        x.films(0, true, 9, 4);
        x.films(7, false, 30, 30);
        x.image(1);
        for (int k = 0; k < 7; k++) {
            x.note(k, 7, 8 * k, 10 * k + 3, 9 * k, k, 99 * k, k);
        }
        x.films(0, false, 7, 7);
        Due.text(x, PLAN, 0, "game 0 1;game 0 2;day 9;at 1;game 5 6;");
        Due.text(x, LEAGUE, 0, "ground 1 1 1;side 0 51;");
        Due.feed(x, "height 8 9;base 9;");
        return x;
    }

    /** Without room for more: three of each, 80 NOTED, 490 bytes, all images. */
    private static HomeGround full() {
        HomeGround x = some();
        x.image(2);
        x.end(0);
        Due.text(x, LEAGUE, NONE, "ground 9 9 9;");
        Due.text(x, LAW, NONE, "");
        Due.text(x, PLAN, NONE, PLAYS + MORE);
        for (int k = x.count(NOTES); k < 80; k++) {
            x.note(k % 8, (k + 1) % 8, k % 60, k, 99 - k, k % 20, 12 * k, k % 7);
        }
        Due.feed(x, " ".repeat(472) + "miles 3 4;base 11;");
        return x;
    }

    // ---- questions ----

    private static List<ToLongFunction<HomeGround>> counted() {
        List<ToLongFunction<HomeGround>> all = new ArrayList<>();
        for (int k = 0; k < 4; k++) {
            int what = k;
            all.add(x -> x.count(what));
        }
        for (int judge = 0; judge < 8; judge++) {
            int of = judge;
            all.add(x -> x.looser(of, false));
            all.add(x -> x.looser(of, true));
        }
        for (int one = 0; one < 3; one++) {
            int k = one;
            for (int what : new int[] {0, 10, 11, 12, 13, 14, 15, 21, 22, 23, 24, 25}) {
                all.add(x -> x.law(k, what));
            }
            for (int number = 0; number < 60; number += number == 1 ? 9 : 1) {
                int what = number;
                all.add(x -> x.league(k, what));
            }
        }
        return all;
    }

    private static List<ToLongFunction<HomeGround>> planned() {
        List<ToLongFunction<HomeGround>> all = new ArrayList<>();
        for (int one = 0; one < 3; one++) {
            int k = one;
            all.add(x -> x.plan(k, NONE, 0));
            for (int number = 0; number < 48; number++) {
                int game = number / 6;
                int what = number % 6;
                all.add(x -> x.plan(k, game, what));
            }
            for (int number = 0; number < 16; number++) {
                int a = number / 4;
                int b = number % 4;
                all.add(x -> x.miles(k, a, b));
            }
        }
        return all;
    }

    private static List<ToLongFunction<HomeGround>> notedOf(int from, int to) {
        List<ToLongFunction<HomeGround>> all = new ArrayList<>();
        for (int number = 10 * from; number < 10 * to; number++) {
            int k = number / 10;
            int what = number % 10;
            all.add(x -> x.noted(k, what));
        }
        return all;
    }

    /** What is on the tape: read as a text, and how long it is. */
    private static List<ToLongFunction<HomeGround>> read() {
        List<ToLongFunction<HomeGround>> all = new ArrayList<>();
        all.add(x -> x.text(LAW, 0));
        all.add(x -> x.fault(0));
        all.add(x -> x.fault(1));
        for (int what : new int[] {0, 11, 13, 15, 21, 23, 25}) {
            all.add(x -> x.law(0, what));
        }
        return all;
    }

    private static List<ToLongFunction<HomeGround>> lengths() {
        List<ToLongFunction<HomeGround>> all = new ArrayList<>();
        for (int n : new int[] {491, 490, 21, 20, 19, 18, 17, 16, 1, 0}) {
            all.add(x -> x.end(n));
        }
        return all;
    }

    /** Groups of questions, by name; "tape" and "fault" are what a text() changes in any case. */
    private static Map<String, List<ToLongFunction<HomeGround>>> questions() {
        Map<String, List<ToLongFunction<HomeGround>>> all = new LinkedHashMap<>();
        all.put("told", counted());
        all.put("plans and miles", planned());
        all.put("noted from 0", notedOf(0, 27));
        all.put("noted from 27", notedOf(27, 54));
        all.put("noted from 54", notedOf(54, 80));
        all.put("fault", List.of(x -> x.fault(0), x -> x.fault(1)));
        all.put("tape as read", read());
        all.put("tape's length", lengths());
        return all;
    }

    private static final Map<String, List<ToLongFunction<HomeGround>>> QUESTIONS = questions();
    private static final Map<String, List<long[]>> KEPT = new HashMap<>();

    private static long[] answers(Supplier<HomeGround> make, int image, List<ToLongFunction<HomeGround>> group) {
        HomeGround x = make.get();
        if (image != NO_IMAGE && !x.again(image)) {
            return new long[0];
        }
        long[] all = new long[group.size()];
        for (int i = 0; i < all.length; i++) {
            all[i] = group.get(i).applyAsLong(x);
        }
        return all;
    }

    private static List<long[]> seen(Supplier<HomeGround> make, int image) {
        List<long[]> all = new ArrayList<>();
        QUESTIONS.forEach((name, group) -> all.add(answers(make, image, group)));
        return all;
    }

    /** All answers of an object, or of an image of it, are those of another one (the text's own ones perhaps left out). */
    private static void alike(String call, List<long[]> want, List<long[]> have, boolean withText) {
        int group = 0;
        for (String name : QUESTIONS.keySet()) {
            boolean ofText = name.startsWith("tape") || name.equals("fault");
            if (withText || !ofText) {
                compared += want.get(group).length;
                int first = Arrays.mismatch(want.get(group), have.get(group));
                is(call + ", " + name + ", first other answer", first, -1);
            }
            group++;
        }
    }

    // ---- promise 45, and the number of calls ----

    private static void calls() {
        HomeGround x = new HomeGround();
        for (int call = 1; call <= 510; call++) {
            x.note(0, 1, 5, 10, 0, 0, 0, 0);
        }
        Bounds.DUE.is("the 511th call", x.count(NOTES), 80);
        Bounds.DUE.is("the 512th call", x.sum(0, 59, 1), 80);
    }

    private static void counts() {
        says(45, "How many: 0 LEAGUES, 1 LAWS, 2 PLANS, 3 NOTED");
        for (int sort = 0; sort < 3; sort++) {
            HomeGround x = new HomeGround();
            for (int k = 0; k <= 3; k++) {
                for (int what = 0; what < 4; what++) {
                    is(k + " of sort " + sort + ", count " + what, x.count(what), what == sort ? k : 0);
                }
                Due.text(x, sort, NONE, "");
            }
            is("there are three", x.count(sort), 3);
        }
        HomeGround x = new HomeGround();
        for (int k = 0; k <= 80; k++) {
            is("noted", x.count(NOTES), k);
            x.note(0, 1, 5, 0, 0, 0, 0, 0);
        }
        is("there are 80", x.count(NOTES), 80);
        is("no laws", x.count(LAW), 0);
    }

    private static void countsOfFull() {
        says(45, "How many: 0 LEAGUES, 1 LAWS, 2 PLANS, 3 NOTED");
        int[] want = {3, 3, 3, 80};
        for (int what = 0; what < 4; what++) {
            is("of a full one " + what, full().count(what), want[what]);
        }
        is("its tape", full().end(490), 490);
        is("its tape's end", full().end(491), NONE);
        is("its last plan", full().plan(2, NONE, 0), 8);
    }

    private static void countRefused() {
        says(45, "-2 for another what");
        for (int what : new int[] {-1, 4, 5, MIN, MAX}) {
            is("what " + what, new HomeGround().count(what), NO_SUCH);
            is("of a full one, what " + what, full().count(what), NO_SUCH);
        }
    }

    // ---- promises 46 and 47 ----

    private static Map<String, Consumer<HomeGround>> changes() {
        Map<String, Consumer<HomeGround>> all = new LinkedHashMap<>();
        String[] texts = {"ground 3 3 3;ground 3 3 3;side 1 5;miles 0 1 8;", "base 1;known 2;rest 3 4;", "game 7 6;at 3;game 6 7;"};
        for (int sort = 0; sort < 3; sort++) {
            int of = sort;
            all.put("a further one of sort " + sort, x -> Due.text(emptied(x), of, NONE, texts[of]));
            all.put("another one of sort " + sort, x -> Due.text(emptied(x), of, 0, texts[of]));
        }
        all.put("a fault", x -> Due.text(emptied(x), LEAGUE, 0, "     ?"));
        all.put("a refused text", x -> x.text(3, 0));
        all.put("a note", x -> x.note(2, 6, 44, 12, 34, 5, 678, 4));
        all.put("a season", x -> x.play(1, 1, 1, -9, 59));
        all.put("films", x -> x.films(0, false, 5, 3));
        all.put("films with sound", x -> x.films(0, true, 1, 0));
        all.put("bytes", x -> x.feed(0x20202020, 0x6b6e6f77, 0x6e20393b, 0x0a0a0a0a, 0x0a0a0a3f));
        all.put("fewer bytes", x -> x.end(11));
        all.put("an image", x -> {
            x.again(0);
            x.note(0, 3, 1, 55, 66, 7, 88, 1);
            x.note(1, 3, 2, 45, 67, 8, 99, 2);
            x.films(5, true, 2, 1);
        });
        return all;
    }

    private static HomeGround emptied(HomeGround x) {
        x.end(0);
        return x;
    }

    private static void image() {
        says(46, "Image k (0 .. 2) is all that is told (the tape, the FAULT, too), as it is now: true");
        Map<String, Consumer<HomeGround>> changes = changes();
        List<long[]> before = seen(StateBounds::some, NO_IMAGE);
        changes.forEach((name, change) -> {
            Supplier<HomeGround> changed = () -> behind(some(), change);
            List<long[]> now = seen(changed, NO_IMAGE);
            is(name + " changes an answer", same(before, now), false);
            for (int k = 0; k < 3; k++) {
                int of = k;
                // the image has the change, whatever comes behind it
                Supplier<HomeGround> kept = () -> {
                    HomeGround x = changed.get();
                    is("image", x.image(of), true);
                    changes.values().forEach(other -> other.accept(x));
                    return x;
                };
                alike("image " + k + " behind " + name, now, seen(kept, k), true);
            }
        });
        // an image changes nothing but itself
        for (int k = 0; k < 3; k++) {
            int of = k;
            Supplier<HomeGround> made = () -> behind(some(), x -> x.image(of));
            alike("behind image " + k, before, seen(made, NO_IMAGE), true);
            for (int other = 0; other < 3; other++) {
                alike("image " + other + " behind image " + k, other == k ? before : seen(StateBounds::some, other),
                    seen(made, other), true);
            }
        }
        Supplier<HomeGround> nothing = () -> behind(new HomeGround(), x -> x.image(0), x -> Due.text(x, LAW, NONE, "base 5;"));
        alike("an image of nothing", seen(HomeGround::new, NO_IMAGE), seen(nothing, 0), true);
    }

    private static boolean same(List<long[]> a, List<long[]> b) {
        for (int group = 0; group < a.size(); group++) {
            if (!Arrays.equals(a.get(group), b.get(group))) {
                return false;
            }
        }
        return true;
    }

    @SafeVarargs
    private static HomeGround behind(HomeGround x, Consumer<HomeGround>... calls) {
        for (Consumer<HomeGround> call : calls) {
            call.accept(x);
        }
        return x;
    }

    private static void imageRefused() {
        says(46, "false for another k");
        HomeGround x = new HomeGround();
        for (int k : new int[] {-1, 3, 4, MIN, MAX}) {
            is("image " + k, x.image(k), false);
            is("again " + k, x.again(k), false);
        }
        for (int k = 0; k < 3; k++) {
            is("no image of it, " + k, x.again(k), false);
        }
        for (int k = 0; k < 3; k++) {
            is("image " + k, x.image(k), true);
            is("image " + k + " once more", x.image(k), true);
        }
    }

    private static void again() {
        says(47, "All that is as image k has it (other images stay): true");
        List<long[]> before = seen(StateBounds::some, NO_IMAGE);
        changes().forEach((name, change) -> {
            Supplier<HomeGround> back = () -> behind(some(), x -> x.image(2), change, x -> is("again", x.again(2), true));
            alike("again behind " + name, before, seen(back, NO_IMAGE), true);
            for (int k = 0; k < 3; k++) {
                List<long[]> want = k == 2 ? before : seen(StateBounds::some, k);
                alike("image " + k + " behind again behind " + name, want, seen(back, k), true);
            }
        });
        // to and fro between images of fewer and of more
        List<long[]> first = seen(StateBounds::full, 0);
        List<long[]> last = seen(StateBounds::full, 2);
        alike("image 0 is the young one", seen(StateBounds::young, NO_IMAGE), first, true);
        alike("image 2 is the one with some", before, last, true);
        Supplier<HomeGround> there = () -> behind(full(), x -> x.again(2), x -> x.again(1), x -> x.again(0));
        alike("the young one again", first, seen(there, NO_IMAGE), true);
        alike("and the one with some", last, seen(there, 2), true);
        // what was NOTED behind an image is struck, and its numbers are given anew
        HomeGround x = new HomeGround();
        x.note(0, 1, 5, 10, 0, 0, 0, 0);
        x.image(0);
        x.note(2, 3, 6, 20, 0, 0, 0, 0);
        x.image(1);
        is("again", x.again(0), true);
        is("one", x.count(NOTES), 1);
        is("no second", x.noted(1, 0), NONE);
        is("another second", x.note(4, 5, 7, 30, 0, 0, 0, 0), 1);
        is("again", x.again(1), true);
        is("the second", x.noted(1, 0), 2);
        is("again once more", x.again(1), true);
        is("two", x.count(NOTES), 2);
    }

    private static void againRefused() {
        says(47, "false if there is none such");
        for (int k : new int[] {-1, 2, 3, MIN, MAX}) {
            is("again " + k, some().again(k), false);
            Supplier<HomeGround> refused = () -> behind(some(), x -> x.again(k));
            alike("again " + k, seen(StateBounds::some, NO_IMAGE), seen(refused, NO_IMAGE), true);
        }
        HomeGround x = new HomeGround();
        for (int made = 0; made < 3; made++) {
            for (int k = 0; k < 3; k++) {
                is("again " + k + " with " + made, x.again(k), k < made);
            }
            x.image(made);
        }
        is("again 2", x.again(2), true);
    }

    // ---- what stays as it was ----

    private static List<Method> face() {
        List<Method> all = new ArrayList<>();
        for (Method method : HomeGround.class.getMethods()) {
            if (method.getDeclaringClass() == HomeGround.class) {
                all.add(method);
            }
        }
        all.sort(Comparator.comparing(Method::getName));
        return all;
    }

    /** Some arguments: all 0, 1, .., each one off, and others by a fixed seed. */
    private static List<Object[]> arguments(Method method, int random) {
        Class<?>[] types = method.getParameterTypes();
        List<int[]> rows = new ArrayList<>();
        rows.add(new int[types.length]);
        int[] ones = new int[types.length];
        Arrays.fill(ones, 1);
        rows.add(ones);
        for (int i = 0; i < types.length; i++) {
            for (int off : new int[] {NONE, MAX}) {
                int[] row = ones.clone();
                row[i] = off;
                rows.add(row);
            }
        }
        Random numbers = new Random(method.getName().hashCode());
        for (int i = 0; i < random; i++) {
            rows.add(numbers.ints(types.length, 0, NUMBERS.length).map(k -> NUMBERS[k]).toArray());
        }
        List<Object[]> all = new ArrayList<>();
        for (int[] row : rows) {
            Object[] values = new Object[types.length];
            for (int i = 0; i < types.length; i++) {
                values[i] = types[i] == boolean.class ? (Object) (row[i] % 2 != 0) : (Object) row[i];
            }
            all.add(values);
        }
        return all;
    }

    private static long call(Method method, HomeGround x, Object[] values) {
        try {
            Object answer = method.invoke(x, values);
            return answer instanceof Boolean yes ? (yes ? 1 : -1) : ((Number) answer).longValue();
        } catch (IllegalAccessException | InvocationTargetException e) {
            throw new IllegalStateException(method.getName() + Arrays.toString(values), e);
        }
    }

    private static List<long[]> kept(String name, Supplier<HomeGround> make, int image) {
        return KEPT.computeIfAbsent(name + image, key -> seen(make, image));
    }

    /** Calls of all kinds: each one that asks, or is refused, leaves all as it is without it. */
    private static int refused(String name, Supplier<HomeGround> make, int random, String... wanted) {
        int times = 0;
        for (Method method : face()) {
            boolean changing = CHANGING.contains(method.getName());
            int met = 0;
            for (Object[] values : arguments(method, random)) {
                long answer = call(method, make.get(), values);
                boolean text = method.getName().equals("text");
                if (changing && (answer >= 0 || text && answer == NONE)) {
                    continue;
                }
                met++;
                String call = "a " + name + " object behind " + method.getName() + Arrays.toString(values);
                Supplier<HomeGround> behind = () -> behind(make.get(), x -> call(method, x, values));
                alike(call, kept(name, make, NO_IMAGE), seen(behind, NO_IMAGE), !text);
                if (changing) {
                    for (int k = 0; k < 3; k++) {
                        alike(call + " image " + k, kept(name, make, k), seen(behind, k), true);
                    }
                }
            }
            if (!changing || List.of(wanted).contains(method.getName())) {
                is(name + ": " + method.getName() + " was met", met > 0, true);
            }
            times += met;
        }
        return times;
    }

    private static void refusedBySome() {
        says(13, "(nothing is NOTED then)");
        int met = refused("some", StateBounds::some, 10, "end", "text", "play", "note", "films", "image", "again");
        is("calls that leave all as it is", met > 400, true);
    }

    private static void refusedByFull() {
        says(2, "NONE, and nothing comes, if there would be more than 500");
        int met = refused("full", StateBounds::full, 2, "feed", "end", "text", "play", "note", "films", "image");
        is("calls that leave all as it is", met > 200, true);
        met = refused("new", HomeGround::new, 3, "end", "text", "play", "note", "films", "image", "again");
        is("calls that leave all as it is", met > 200, true);
    }

    /** What is asked is answered alike on a new object and behind any other questions. */
    private static void inAnyOrder() {
        says(47, "All that is as image k has it");
        List<Supplier<HomeGround>> makes = List.of(StateBounds::some, StateBounds::full, StateBounds::meeting);
        for (Supplier<HomeGround> make : makes) {
            for (int round = 0; round < 60; round++) {
                inAnyOrder(make, new Random(round));
            }
        }
    }

    private static void inAnyOrder(Supplier<HomeGround> make, Random random) {
        List<Method> asking = new ArrayList<>(face());
        asking.removeIf(method -> CHANGING.contains(method.getName()));
        HomeGround asked = make.get();
        for (int question = 0; question < 300; question++) {
            Method method = asking.get(random.nextInt(asking.size()));
            Class<?>[] types = method.getParameterTypes();
            Object[] values = new Object[types.length];
            for (int i = 0; i < types.length; i++) {
                int number = random.nextInt(6) == 0 ? NUMBERS[random.nextInt(NUMBERS.length)] : random.nextInt(4);
                values[i] = types[i] == boolean.class ? (Object) (number % 2 == 0) : (Object) number;
            }
            is(method.getName() + Arrays.toString(values) + " behind " + question + " questions", call(method, asked, values),
                call(method, make.get(), values));
        }
    }

    /** PLANS of many, one and no GAMES; NOTED of the YEARS 0 to 3, of which each one asks for other SIDES and JUDGES. */
    private static HomeGround meeting() {
        HomeGround x = told(BIG, "base 40;known 5;miles 2 100;rest 7 5;sung 3 30;judged 5 40;height 4 20;", PLAYS + MORE);
        Due.text(x, LAW, NONE, "known 1;");
        Due.text(x, PLAN, NONE, "game 1 2;");
        Due.text(x, PLAN, NONE, "");
        for (int k = 0; k < 12; k++) {
            x.note(k % 4, (k + 1 + k / 4) % 4, 0, 13 * k % 50, 11 * k % 77, k, 90 * k, k % 3);
        }
        x.note(3, 0, 1, 50, 12, 3, 400, 1);
        x.note(0, 1, 1, 12, 30, 4, 1, 1);
        x.note(1, 0, 1, 10, 3, 5, 2, 0);
        for (int side = 0; side < 7; side++) {
            x.note(side, side + 1, 2, 21, side, side, 100 * side, side);
        }
        for (int k = 0; k < 5; k++) {
            x.note(5, 6, 3, 12 + 9 * k, 0, k, k, 2);
        }
        return x;
    }

    /** A text with a FAULT, and one that there is no place for, take the tape and leave what is told. */
    private static void refusedText() {
        says(4, "(the tape is empty then, too; no text is read, FAULT 0)");
        String[] texts = {"ground 1 1 1;ground 2 2 2;side 0 9;side 7 7;", "base 7;known 8;known 51;", "game 0 1;soft;game 3 3;"};
        List<Supplier<HomeGround>> makes = List.of(StateBounds::some, StateBounds::full);
        for (Supplier<HomeGround> make : makes) {
            List<long[]> want = seen(make, NO_IMAGE);
            for (int sort = 0; sort < 3; sort++) {
                for (int at = -2; at <= 3; at++) {
                    int of = sort;
                    int where = at;
                    String call = "a fault of sort " + sort + " at " + at;
                    boolean there = at >= 0 && at < make.get().count(sort) || at == NONE && make.get().count(sort) < 3;
                    Supplier<HomeGround> behind = () -> behind(make.get(), x -> Due.text(emptied(x), of, where, texts[of]));
                    alike(call, want, seen(behind, NO_IMAGE), false);
                    HomeGround x = behind.get();
                    is(call + " fault", x.fault(0), there ? 2 : 0);
                    is(call + " place", x.fault(1) >= 0, there);
                    is(call + " tape", x.end(1), NONE);
                    for (int k = 0; k < 3; k++) {
                        alike(call + " image " + k, seen(make, k), seen(behind, k), true);
                    }
                }
            }
        }
    }
}
