import java.lang.management.ManagementFactory;
import java.util.Random;

/** Any numbers whatever in any state: no call throws or fails to end, and a run makes little. */
public final class WildTest {
    private static final int RUNS = 1000;
    /** Nothing is promised of an object behind its 512th call; a text takes fewer than 30. */
    private static final int CALLS = 512 - 30;
    /** The room of all calls, if each field and element were a byte alone. */
    private static final long ROOM = 7300000;
    private static final String[] BITS = {"ground", "side", "miles", "base", "known", "rest", "sung", "judged", "height",
        "day", "people", "empty", "soft", "strict", "at", "game", ";", ";", ";", ";", " ", "\n", "0", "1", "2", "7", "50",
        "999", "12345", "?", "ground 1 1 1;side 0 1;side 0 2;", "game 0 1;game 1 0;soft;", "rest 9 9;judged 9 9;"};
    private static final int[] NUMBERS = {-1, 0, 1, 2, 3, 5, 7, 8, 9, 10, 39, 40, 41, 59, 60, 80, 99, 101, 200, 500, 999,
        1000, 1001, -2, 1 << 16, 1 << 30, Integer.MAX_VALUE, Integer.MIN_VALUE, Integer.MAX_VALUE - 1};

    private final Random random;
    private final HomeGround x = new HomeGround();
    private long kept = 0;
    private int calls = 0;

    private WildTest(int run) {
        random = new Random(run);
    }

    public static void main(String[] args) {
        com.sun.management.ThreadMXBean beans = (com.sun.management.ThreadMXBean) ManagementFactory.getThreadMXBean();
        long thread = Thread.currentThread().getId();
        long most = 0;
        long all = 0;
        for (int run = 0; run < RUNS; run++) {
            long before = beans.getThreadAllocatedBytes(thread);
            WildTest test = new WildTest(run);
            while (test.calls < CALLS) {
                test.call(test.random.nextInt(52));
            }
            most = Math.max(most, beans.getThreadAllocatedBytes(thread) - before);
            all += test.kept;
        }
        System.out.println(RUNS + " runs, at most " + most + " bytes made in one, answers together " + all);
        if (most > ROOM) {
            System.out.println("more than " + ROOM);
            System.exit(1);
        }
    }

    private int n() {
        int kind = random.nextInt(8);
        return kind == 0 ? random.nextInt() : kind < 5 ? random.nextInt(4) : NUMBERS[random.nextInt(NUMBERS.length)];
    }

    private boolean b() {
        return random.nextBoolean();
    }

    private void keep(long answer) {
        calls++;
        kept += answer;
    }

    private void keep(boolean answer) {
        keep(answer ? 1L : 0L);
    }

    private void tell() {
        StringBuilder text = new StringBuilder();
        for (int i = random.nextInt(60); i >= 0; i--) {
            text.append(BITS[random.nextInt(BITS.length)]).append(b() ? " " : "");
        }
        text.setLength(Math.min(text.length(), 500));
        Due.feed(x, text.toString());
        calls += text.length() / 20 + 2;
        keep(x.text(random.nextInt(3), HomeGround.NONE));
    }

    private void call(int which) {
        switch (which) {
            case 0 -> keep(x.feed(n(), n(), n(), n(), n()));
            case 1 -> keep(x.end(n()));
            case 2 -> keep(x.text(n(), n()));
            case 3 -> keep(x.fault(n()));
            case 4 -> keep(x.league(n(), n()));
            case 5 -> keep(x.miles(n(), n(), n()));
            case 6 -> keep(x.law(n(), n()));
            case 7 -> keep(x.plan(n(), n(), n()));
            case 8 -> keep(x.goes(n(), n()));
            case 9 -> keep(x.worth(n(), n(), n(), n(), n()));
            case 10 -> keep(x.chance(n(), n(), n(), n(), n()));
            case 11 -> keep(x.play(n(), n(), n(), n(), n()));
            case 12 -> keep(x.note(n(), n(), n(), n(), n(), n(), n(), n()));
            case 13 -> keep(x.noted(n(), n()));
            case 14 -> keep(x.sum(n(), n(), n()));
            case 15 -> keep(x.table(n(), n(), n()));
            case 16 -> keep(x.points(n(), n(), n()));
            case 17 -> keep(x.alone(n(), n(), b()));
            case 18 -> keep(x.both(n(), n(), n(), b()));
            case 19 -> keep(x.off(n(), n(), b()));
            case 20 -> keep(x.people(n(), n(), n(), b()));
            case 21 -> keep(x.slope(n(), n(), b()));
            case 22 -> keep(x.odds(n(), n(), n(), b()));
            case 23 -> keep(x.carded(n(), n(), n()));
            case 24 -> keep(x.longer(n(), n(), n(), b()));
            case 25 -> keep(x.fresh(n(), n(), n()));
            case 26 -> keep(x.films(n(), b(), n(), n()));
            case 27 -> keep(x.looser(n(), b()));
            case 28 -> keep(x.had(n(), n(), n()));
            case 29 -> keep(x.fixed(n(), n(), n(), n()));
            case 30 -> keep(x.travel(n(), n(), n()));
            case 31 -> keep(x.runs(n(), n(), b()));
            case 32 -> keep(x.early(n(), n(), n()));
            case 33 -> keep(x.uneven(n()));
            case 34 -> keep(x.turned(n(), n()));
            case 35 -> keep(x.like(n(), n(), n(), n()));
            case 36 -> keep(x.single(n(), n(), n(), n()));
            case 37 -> keep(x.felt(n(), n(), n(), n(), n(), b()));
            case 38 -> keep(x.rule(n(), n(), n(), n()));
            case 39 -> keep(x.less(n(), n(), n(), n()));
            case 40 -> keep(x.bet(n(), n(), n(), n(), n()));
            case 41 -> keep(x.best(n(), n(), n(), n()));
            case 42 -> keep(x.fair(n(), n(), n(), n()));
            case 43 -> keep(x.count(n()));
            case 44 -> keep(x.image(n()));
            case 45 -> keep(x.again(n()));
            case 46 -> keep(x.note(random.nextInt(8), random.nextInt(8), random.nextInt(60), random.nextInt(100),
                random.nextInt(100), random.nextInt(20), random.nextInt(1000), random.nextInt(8)));
            default -> tell();
        }
    }
}
