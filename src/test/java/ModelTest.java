import java.util.Random;

/** Random runs of calls, held against the Model; the seed is fixed, so that each run is the same. */
public final class ModelTest {
    private static final int RUNS = 1500;
    private static final int CALLS = 512;
    private static final String[] SIGNS = {"give", "see", "say", "lie", "rest", "feel", "to", "eye", "ear", "mouth",
        ";", " ", "\n", "0", "1", "12", "99", "100", "00001", "x", "G", ".", "\t", "\u00e9", "\u0000"};

    private final Check check = new Check();
    private final Random random = new Random(20261117);
    private OneEye x;
    private Model y;
    private int calls;
    // Each run has three FACTS alone, so that what is said of them meets.
    private int firstFact;

    public static void main(String[] args) {
        ModelTest test = new ModelTest();
        for (int run = 0; run < RUNS && !test.check.anyWrong(); run++) {
            test.check.about("run " + run);
            test.run(run);
        }
        test.check.finish();
    }

    private void run(int run) {
        x = new OneEye();
        y = new Model();
        calls = 0;
        firstFact = random.nextInt(8);
        int threes = 1 + random.nextInt(4);
        boolean clumsy = random.nextBoolean();
        for (int t = 0; t < threes; t++) {
            int hand = 1 + random.nextInt(random.nextBoolean() ? 2 : 9);
            int drop = clumsy ? random.nextInt(500) : 0;
            due("three", x.three(hand, drop), y.three(hand, drop));
        }
        while (calls < CALLS - 180 && !check.anyWrong()) {
            int sort = random.nextInt(100);
            if (sort < 25) {
                plan();
            } else if (sort < 55) {
                int n = random.nextInt(12) == 0 ? random.nextInt(1100) - 20 : 1 + random.nextInt(12);
                due("minutes(" + n + ")", x.minutes(n), y.minutes(n));
            } else if (sort < 75) {
                tell();
            } else {
                ask();
            }
        }
        lookAll();
    }

    private void due(String call, int got, int want) {
        calls++;
        check.due("call " + calls + " " + call, got, want);
    }

    private void due(String call, boolean got, boolean want) {
        due(call, got ? 1 : 0, want ? 1 : 0);
    }

    /** Mostly within its bounds, at times a little or far beyond them. */
    private int upTo(int most) {
        int sort = random.nextInt(60);
        return sort == 0 ? -1 : sort == 1 ? most + 1 : sort == 2 ? random.nextInt() : random.nextInt(most + 1);
    }

    private int aThree() {
        return upTo(Math.max(0, y.look(0) - 1));
    }

    private int aPerson() {
        return upTo(Math.max(0, 3 * y.look(0) - 1));
    }

    private void plan() {
        StringBuilder text = new StringBuilder();
        int steps = random.nextInt(40) == 0 ? 28 + random.nextInt(5) : random.nextInt(8);
        for (int i = 0; i < steps; i++) {
            text.append(step()).append(random.nextInt(5) == 0 ? " ; " : ";");
        }
        if (random.nextInt(4) == 0) {
            spoil(text);
        }
        if (text.length() > 400) {
            text.setLength(400);
        }
        String told = text.toString();
        for (int at = 0; at < told.length(); at += 20) {
            int[] w = new int[5];
            for (int i = 0; i < 5; i++) {
                w[i] = Check.word(told, at + 4 * i);
            }
            due("feed", x.feed(w[0], w[1], w[2], w[3], w[4]), y.feed(w));
        }
        int length = random.nextInt(30) == 0 ? upTo(400) : told.length();
        due("end(" + length + ")", x.end(length), y.end(length));
        int t = aThree();
        due("text(" + t + ") \"" + told + "\"", x.text(t), y.text(t));
        due("fault(0) \"" + told + "\"", x.fault(0), y.fault(0));
        due("fault(1) \"" + told + "\"", x.fault(1), y.fault(1));
    }

    private String step() {
        int last = Math.max(0, y.look(0) - 1);
        String thing = SIGNS[7 + random.nextInt(3)];
        int f = firstFact + random.nextInt(3);
        return switch (random.nextInt(9)) {
            case 0, 1 -> "give " + thing + " " + random.nextInt(3);
            case 2, 3 -> "see " + f;
            case 4, 5 -> "say " + f + " to " + random.nextInt(last + 1);
            case 6 -> "lie " + f + "to " + random.nextInt(last + 1);
            case 7 -> "rest " + (1 + random.nextInt(random.nextInt(5) == 0 ? 99 : 4));
            default -> "feel " + thing + "  " + spotOf(thing);
        };
    }

    /** Often the SPOT where such a thing lies, so that some are felt. */
    private int spotOf(String thing) {
        for (int t = 0; t < y.look(0); t++) {
            int at = y.where(t, thing.equals("eye") ? 0 : thing.equals("ear") ? 1 : 2);
            if (at >= 10 && random.nextBoolean()) {
                return at - 10;
            }
        }
        return random.nextInt(9);
    }

    private void spoil(StringBuilder text) {
        int changes = 1 + random.nextInt(2);
        for (int i = 0; i < changes; i++) {
            int at = random.nextInt(text.length() + 1);
            String sign = SIGNS[random.nextInt(SIGNS.length)];
            if (random.nextBoolean() || at == text.length()) {
                text.insert(at, sign);
            } else if (random.nextBoolean()) {
                text.deleteCharAt(at);
            } else {
                text.replace(at, at + 1, sign);
            }
        }
    }

    private void tell() {
        int a = random.nextInt(3) == 0 ? firstFact + random.nextInt(3) : upTo(9);
        int b = upTo(2);
        int c = upTo(2);
        int t = aThree();
        int p = aPerson();
        boolean is = random.nextBoolean();
        String yes = ", " + is + ")";
        switch (random.nextInt(11)) {
            case 0 -> due("state", x.state(a * 7919), y.state(a * 7919));
            case 1 -> due("three", x.three(a, b * 100), y.three(a, b * 100));
            case 2 -> due("fact(" + a + yes, x.fact(a, is), y.fact(a, is));
            case 3 -> due("trust(" + p + ", " + t + yes, x.trust(p, t, is), y.trust(p, t, is));
            case 4 -> {
                int minute = y.look(1) - 1 + random.nextInt(20);
                due("noise(" + minute + ")", x.noise(minute), y.noise(minute));
            }
            case 5 -> {
                for (int i = 0; i < 5; i++) {
                    int place = upTo(random.nextBoolean() ? 3 : 11);
                    int v = upTo(9);
                    b = upTo(2);
                    c = upTo(2);
                    due("danger", x.danger(place, b, c, v), y.danger(place, b, c, v));
                }
            }
            case 6 -> {
                int s = upTo(8);
                int weight = upTo(99);
                due("spot", x.spot(s, weight, a), y.spot(s, weight, a));
            }
            case 7 -> {
                int minutes = upTo(is ? 99 : 12);
                due("watch(" + minutes + ")", x.watch(minutes), y.watch(minutes));
            }
            case 8, 9 -> due("lends(" + t + ", " + b + ", " + c + yes, x.lends(t, b, c, is), y.lends(t, b, c, is));
            default -> {
                boolean taken = random.nextInt(3) > 0;
                due("image(" + taken + ")", x.image(taken), y.image(taken));
            }
        }
    }

    private void ask() {
        int t = aThree();
        int u = aThree();
        int f = random.nextInt(4) == 0 ? upTo(9) : firstFact + random.nextInt(3);
        int p = aPerson();
        int what = upTo(4);
        int n = upTo(random.nextBoolean() ? 3 : 12);
        int toll = upTo(random.nextBoolean() ? 2 : 9);
        int i = upTo(11);
        switch (random.nextInt(12)) {
            case 0 -> due("origin", x.origin(p, f, what), y.origin(p, f, what));
            case 1 -> due("book", x.book(i * 8 + what, what), y.book(i * 8 + what, what));
            case 2 -> due("errand", x.errand(t, f, u, what), y.errand(t, f, u, what));
            case 3 -> {
                due("errand", x.errand(t, f, u, 0), y.errand(t, f, u, 0));
                due("errand", x.errand(t, f, u, 1), y.errand(t, f, u, 1));
            }
            case 4 -> due("talk(" + t + ", " + u + ", " + f + ")", x.talk(t, u, f), y.talk(t, u, f));
            case 5 -> due("way", x.way(n, toll, 0), y.way(n, toll, 0));
            case 6 -> due("way, who", x.way(n, toll, 10 + i), y.way(n, toll, 10 + i));
            case 7 -> due("felt", x.felt(), y.felt());
            case 8 -> due("liars", x.liars(), y.liars());
            case 9 -> {
                if (random.nextInt(6) == 0) {
                    due("watches", x.watches(0), y.watches(0));
                    due("watches, who", x.watches(10 + i), y.watches(10 + i));
                }
            }
            case 10 -> due("ring", x.ring(), y.ring());
            default -> due("look(" + i + ")", x.look(i), y.look(i));
        }
    }

    /** Beyond the document's count of calls nothing is promised, so these are few enough. */
    private void lookAll() {
        for (int t = 0; t < 4; t++) {
            for (int what = 0; what < 8; what++) {
                due("of(" + t + ", " + what + ")", x.of(t, what), y.of(t, what));
            }
            for (int thing = 0; thing < 3; thing++) {
                due("where(" + t + ", " + thing + ")", x.where(t, thing), y.where(t, thing));
            }
        }
        for (int p = 0; p < 12; p++) {
            due("heard(" + p + ")", x.heard(p), y.heard(p));
            int thing = random.nextInt(3);
            due("held(" + p + ")", x.held(p, thing), y.held(p, thing));
            int f = firstFact + random.nextInt(3);
            due("knows(" + p + ")", x.knows(p, f), y.knows(p, f));
            for (int what = 0; what < 4; what++) {
                due("origin(" + p + ", " + f + ", " + what + ")", x.origin(p, f, what), y.origin(p, f, what));
            }
        }
        for (int what = 0; what < 20; what++) {
            due("look(" + what + ")", x.look(what), y.look(what));
        }
    }
}
