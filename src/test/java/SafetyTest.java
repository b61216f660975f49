import java.lang.management.ManagementFactory;
import java.util.Random;

/** No call throws, whatever its arguments; a run of calls makes next to nothing; all end soon. */
public final class SafetyTest {
    private static final int[] EDGES = {Integer.MIN_VALUE, Integer.MIN_VALUE + 1, -1000, -10, -2, -1, 0, 1, 2, 3, 4, 5,
        8, 9, 10, 11, 12, 13, 19, 20, 21, 29, 30, 31, 32, 33, 63, 64, 98, 99, 100, 399, 400, 401, 999, 1000, 1001,
        99998, 99999, 100000, Integer.MAX_VALUE - 1, Integer.MAX_VALUE};
    private static final Check check = new Check();
    private static final Random random = new Random(31);

    public static void main(String[] args) {
        edges();
        roomOfARun();
        longRun();
        check.finish();
    }

    private static int any() {
        return random.nextInt(3) == 0 ? random.nextInt(5) : EDGES[random.nextInt(EDGES.length)];
    }

    private static void edges() {
        for (int run = 0; run < 600; run++) {
            OneEye x = new OneEye();
            int which = -1;
            boolean thrown = false;
            try {
                for (int i = 0; i < 1000; i++) {
                    which = random.nextInt(31);
                    call(x, which);
                }
            } catch (RuntimeException | StackOverflowError e) {
                thrown = true;
                e.printStackTrace(System.out);
            }
            check.due("run " + run + " throws, at call " + which, thrown, false);
        }
    }

    private static int call(OneEye x, int which) {
        boolean is = random.nextBoolean();
        return switch (which) {
            case 0 -> x.state(any());
            case 1 -> x.three(any(), any());
            case 2 -> x.fact(any(), is) ? 1 : 0;
            case 3 -> x.trust(any(), any(), is) ? 1 : 0;
            case 4 -> x.feed(any(), random.nextInt(), any(), random.nextInt(), any());
            case 5 -> x.end(any()) ? 1 : 0;
            case 6 -> is ? x.text(any()) : Check.plan(x, random.nextInt(4), plan());
            case 7 -> x.fault(any());
            case 8 -> x.minutes(any());
            case 9 -> x.where(any(), any());
            case 10 -> x.knows(any(), any());
            case 11 -> x.origin(any(), any(), any());
            case 12 -> x.noise(any());
            case 13 -> x.heard(any());
            case 14 -> x.held(any(), any());
            case 15 -> x.of(any(), any());
            case 16 -> x.book(any(), any());
            case 17 -> x.errand(any(), any(), any(), any());
            case 18 -> x.talk(any(), any(), any());
            case 19 -> x.danger(any(), any(), any(), any()) ? 1 : 0;
            case 20 -> x.way(any(), any(), any());
            case 21 -> x.spot(any(), any(), any()) ? 1 : 0;
            case 22 -> x.felt();
            case 23 -> x.liars();
            case 24 -> x.watch(any());
            case 25 -> x.watches(any());
            case 26 -> x.lends(any(), any(), any(), is) ? 1 : 0;
            case 27 -> x.ring();
            case 28 -> x.image(is) ? 1 : 0;
            default -> x.look(any());
        };
    }

    private static String plan() {
        String[] steps = {"give eye 1;", "give ear 2;", "give mouth 1;", "see 1;", "say 1 to 0;", "lie 1 to 1;", "rest 3;",
            "feel eye 4;", "give eye 0;", "give ear 0;", "give mouth 0;", "see 9;", "say 9 to 3;", "rest 99;"};
        StringBuilder text = new StringBuilder();
        int count = random.nextInt(29);
        for (int i = 0; i < count; i++) {
            text.append(steps[random.nextInt(steps.length)]);
        }
        return text.toString();
    }

    /** The dearest calls, each as often as an object is used: what they make stays far below the room. */
    private static void roomOfARun() {
        com.sun.management.ThreadMXBean threads = (com.sun.management.ThreadMXBean) ManagementFactory.getThreadMXBean();
        OneEye warm = full();
        for (int which = 0; which < 12; which++) {
            dear(warm, which);
        }
        long before = threads.getCurrentThreadAllocatedBytes();
        OneEye x = new OneEye();
        long made = threads.getCurrentThreadAllocatedBytes() - before;
        check.due("a new object makes " + made + " bytes", made < 40000, true);
        x = full();
        x.image(true);
        for (int which = 0; which < 12; which++) {
            before = threads.getCurrentThreadAllocatedBytes();
            for (int i = 0; i < 512; i++) {
                dear(x, which);
            }
            made = threads.getCurrentThreadAllocatedBytes() - before;
            check.due("512 calls of " + which + " make " + made + " bytes", made < 4000, true);
        }
    }

    private static int dear(OneEye x, int which) {
        return switch (which) {
            case 0 -> x.minutes(5);
            case 1 -> x.talk(0, 1, 1);
            case 2 -> x.errand(0, 1, 1, 0);
            case 3 -> x.way(12, 3, 21);
            case 4 -> x.felt();
            case 5 -> x.liars();
            case 6 -> x.watches(18);
            case 7 -> x.ring();
            case 8 -> x.image(true) ? 1 : 0;
            case 9 -> x.image(false) ? 1 : 0;
            case 10 -> x.feed(0x73656520, 0x313b2020, 0x73656520, 0x313b2020, 0x20202020) + x.text(0);
            default -> x.look(5);
        };
    }

    private static OneEye full() {
        OneEye x = new OneEye();
        for (int t = 0; t < 4; t++) {
            x.three(2, 300);
            Check.plan(x, t, "see 1;say 1 to 1;give ear 1;give mouth 2;give eye 1;feel eye 3;lie 1 to 0;say 1 to 3;");
        }
        for (int i = 0; i < 9; i++) {
            x.watch(10 + i * i);
            x.spot(i, 9 * i + 3, 1 + i * 5 % 9);
            x.danger(i, i % 3, i / 3, i);
        }
        x.minutes(20);
        return x;
    }

    /** A whole object's life of the longest calls ends in a few seconds. */
    private static void longRun() {
        OneEye x = full();
        x.image(true);
        long before = System.nanoTime();
        for (int i = 0; i < 256; i++) {
            x.image(false);
            x.minutes(1000);
        }
        for (int i = 0; i < 256; i++) {
            x.talk(0, 1, 1);
            x.liars();
            x.watches(18);
        }
        long seconds = (System.nanoTime() - before) / 1000000000L;
        check.due("the longest run took " + seconds + " s", seconds < 30, true);
    }
}
