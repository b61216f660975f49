/** Each promise by itself: ordinary inputs, the edges that the document names, wrong inputs. */
public final class PromisesTest {
    private static final Check check = new Check();

    public static void main(String[] args) {
        newObject();
        state();
        three();
        fact();
        trust();
        feedAndEnd();
        text();
        fault();
        faultsByPlace();
        minutes();
        where();
        handOverOutlivesPlan();
        restAndFeel();
        night();
        knowsAndOrigin();
        noises();
        held();
        of();
        book();
        bookIsFull();
        errand();
        talk();
        danger();
        way();
        spotAndFelt();
        liars();
        watches();
        rings();
        image();
        imageKeepsAllButTapeAndFault();
        look();
        check.finish();
    }

    private static void newObject() {
        check.about("promise 1");
        OneEye x = new OneEye();
        check.due("NONE", OneEye.NONE, -1);
        for (int what = 0; what < 20; what++) {
            int due = what == 5 || what >= 7 && what < 10 ? -1 : 0;
            check.due("look(" + what + ")", x.look(what), due);
        }
        check.due("where", x.where(0, 0), -1);
        check.due("heard", x.heard(0), -1);
        check.due("fault(0)", x.fault(0), 0);
        check.due("fault(1)", x.fault(1), -1);
        check.due("image(false)", x.image(false), false);
        check.due("feed", x.feed(0, 0, 0, 0, 0), 20);
    }

    private static void state() {
        check.about("promise 2");
        OneEye x = new OneEye();
        check.due("state(5)", x.state(5), 0);
        check.due("state(-7)", x.state(-7), 5);
        check.due("look(4)", x.look(4), -7);
        check.due("minutes(1)", x.minutes(1), 1);
        int next = 1664525 * -7 + 1013904223;
        check.due("look(4)", x.look(4), next);
        check.due("look(5)", x.look(5), 120 + (next >>> 8) % 61);
        check.due("state(min)", x.state(Integer.MIN_VALUE), next);
        check.due("state(0)", x.state(0), Integer.MIN_VALUE);
        // A STATE whose next one is below 0: its highest 24 bits are without sign.
        for (int low : new int[] {-1, -256, Integer.MIN_VALUE, -1013904223}) {
            OneEye y = new OneEye();
            y.state(stateAhead(low));
            y.minutes(1);
            check.due("look(4)", y.look(4), low);
            check.due("look(5)", y.look(5), 120 + (low >>> 8) % 61);
        }
    }

    /** The STATE whose next one is v. */
    private static int stateAhead(int v) {
        int inverse = 1;
        for (int i = 0; i < 6; i++) {
            inverse *= 2 - 1664525 * inverse;
        }
        return (v - 1013904223) * inverse;
    }

    private static void three() {
        check.about("promise 3");
        OneEye x = new OneEye();
        check.due("three(0, 0)", x.three(0, 0), -1);
        check.due("three(10, 0)", x.three(10, 0), -1);
        check.due("three(-1, 0)", x.three(-1, 0), -1);
        check.due("three(1, -1)", x.three(1, -1), -1);
        check.due("three(1, 1001)", x.three(1, 1001), -1);
        check.due("look(0)", x.look(0), 0);
        check.due("three(1, 0)", x.three(1, 0), 0);
        check.due("three(9, 1000)", x.three(9, 1000), 1);
        check.due("three(5, 500)", x.three(5, 500), 2);
        check.due("three(0, 0)", x.three(0, 0), -1);
        check.due("three(2, 2)", x.three(2, 2), 3);
        check.due("three(2, 2)", x.three(2, 2), -1);
        check.due("look(0)", x.look(0), 4);
        check.due("of(1, 0)", x.of(1, 0), 9);
        check.due("of(1, 1)", x.of(1, 1), 1000);
        for (int thing = 0; thing < 3; thing++) {
            check.due("where(3, thing)", x.where(3, thing), 0);
        }
    }

    private static void fact() {
        check.about("promise 4");
        OneEye x = new OneEye();
        check.due("fact(-1)", x.fact(-1, true), false);
        check.due("fact(10)", x.fact(10, true), false);
        check.due("fact(0)", x.fact(0, true), true);
        check.due("fact(9)", x.fact(9, true), true);
        check.due("look(10)", x.look(10), 1);
        check.due("look(11)", x.look(11), 0);
        check.due("look(19)", x.look(19), 1);
        check.due("fact(9)", x.fact(9, false), true);
        check.due("look(19)", x.look(19), 0);
    }

    private static void trust() {
        check.about("promise 5");
        OneEye x = new OneEye();
        x.three(1, 0);
        check.due("trust(0, 1)", x.trust(0, 1, false), false);
        check.due("trust(3, 0)", x.trust(3, 0, false), false);
        check.due("trust(-1, 0)", x.trust(-1, 0, false), false);
        check.due("trust(0, -1)", x.trust(0, -1, false), false);
        x.three(1, 0);
        check.due("trust(3, 0)", x.trust(3, 0, false), true);
        x.fact(1, true);
        Check.plan(x, 0, "see 1;say 1 to 1;say 1 to 0;say 1 to 1;");
        x.minutes(2);
        check.due("knows(3, 1)", x.knows(3, 1), 0);
        check.due("look(2)", x.look(2), 1);
        x.minutes(1);
        check.due("knows(0, 1)", x.knows(0, 1), 1);
        check.due("origin(0, 1, 2)", x.origin(0, 1, 2), 1);
        check.due("trust(3, 0)", x.trust(3, 0, true), true);
        x.minutes(1);
        check.due("knows(3, 1)", x.knows(3, 1), 1);
        // Not to trust one's own THREE, and to trust another one, are told apart.
        x.trust(3, 1, false);
        Check.plan(x, 1, "lie 1 to 1;");
        x.minutes(1);
        check.due("knows(3, 1)", x.knows(3, 1), 1);
        check.due("look(2)", x.look(2), 4);
    }

    private static void feedAndEnd() {
        check.about("promises 6 and 7");
        OneEye x = new OneEye();
        x.three(1, 0);
        check.due("end(1)", x.end(1), false);
        check.due("end(-1)", x.end(-1), false);
        check.due("end(0)", x.end(0), true);
        for (int i = 1; i <= 19; i++) {
            check.due("feed", x.feed(0x20202020, 0x20202020, 0x20202020, 0x20202020, 0x20202020), 20 * i);
        }
        check.due("end(381)", x.end(381), false);
        check.due("feed", x.feed(0x20202020, 0x20202020, 0x20202020, 0x20202020, 0x2020203b), 400);
        check.due("feed", x.feed(0, 0, 0, 0, 0), -1);
        check.due("text", x.text(0), -1);
        check.due("fault(0)", x.fault(0), 1);
        check.due("fault(1)", x.fault(1), 399);
        for (int i = 1; i <= 20; i++) {
            x.feed(0, 0, 0, 0, 0);
        }
        check.due("end(381)", x.end(381), true);
        check.due("feed", x.feed(0, 0, 0, 0, 0), -1);
        check.due("end(380)", x.end(380), true);
        check.due("feed", x.feed(0, 0, 0, 0, 0), 400);
        check.due("end(0)", x.end(0), true);
        check.due("text", x.text(0), 0);
        // The highest byte of each number comes first.
        check.due("feed", x.feed(0x73656520, 0x333b7265, 0x73742037, 0x3b202020, 0xffffffff), 20);
        check.due("end(16)", x.end(16), true);
        check.due("text", x.text(0), 2);
        check.due("feed", x.feed(0x20ff2020, 0, 0, 0, 0), 20);
        check.due("text", x.text(0), -1);
        check.due("fault(1)", x.fault(1), 1);
    }

    private static void text() {
        check.about("promise 8");
        OneEye x = new OneEye();
        x.three(1, 0);
        x.three(1, 0);
        check.due("all steps", Check.plan(x, 0, "give eye 0; give ear 1;give mouth 2;see 0;see 9\n;say 0 to 1;"
            + "lie 9 to 0;rest 1;rest 99;feel eye 0;feel mouth 8;"), 11);
        check.due("of(0, 4)", x.of(0, 4), 11);
        check.due("of(1, 4)", x.of(1, 4), 0);
        check.due("blanks alone", Check.plan(x, 0, " \n \n"), 0);
        check.due("no blanks", Check.plan(x, 0, "say3to1;give eye2;feel ear8;"), 3);
        check.due("leading noughts", Check.plan(x, 0, "see 0009;rest 0099;"), 2);
        check.due("a fault", Check.plan(x, 0, "see 3"), -1);
        check.due("of(0, 4)", x.of(0, 4), 2);
        check.due("the tape is empty", x.feed(0, 0, 0, 0, 0), 20);
        check.due("no such three", x.text(2), -1);
        check.due("fault(0)", x.fault(0), 0);
        check.due("fault(1)", x.fault(1), -1);
        check.due("the tape is empty", x.feed(0, 0, 0, 0, 0), 20);
        check.due("no such three", x.text(-1), -1);
        StringBuilder thirty = new StringBuilder();
        for (int i = 0; i < 30; i++) {
            thirty.append("see ").append(i % 10).append(";");
        }
        check.due("thirty", Check.plan(x, 0, thirty.toString()), 30);
        check.due("thirty-one", Check.plan(x, 0, thirty + " see 1;"), -1);
        check.due("fault(0)", x.fault(0), 3);
        check.due("fault(1)", x.fault(1), 181);
        check.due("of(0, 4)", x.of(0, 4), 30);
    }

    private static void fault() {
        check.about("promise 9");
        OneEye x = new OneEye();
        x.three(1, 0);
        x.three(1, 0);
        faultIs(x, "see 3", 1, 5);
        check.due("fault(2)", x.fault(2), -1);
        check.due("fault(-1)", x.fault(-1), -1);
        faultIs(x, "see 3  \n", 1, 8);
        faultIs(x, "se 3;", 1, 0);
        faultIs(x, "sees 3;", 1, 0);
        faultIs(x, "seeing 3;", 1, 0);
        faultIs(x, "See 3;", 1, 0);
        faultIs(x, "see ;", 1, 4);
        faultIs(x, "see eye;", 1, 4);
        faultIs(x, "see 3 4;", 1, 6);
        faultIs(x, ";", 1, 0);
        faultIs(x, "see 3;;", 1, 6);
        faultIs(x, "eye 3;", 1, 0);
        faultIs(x, "to 3;", 1, 0);
        faultIs(x, "7;", 1, 0);
        faultIs(x, "see 00003;", 1, 4);
        faultIs(x, "see 12345;", 1, 4);
        faultIs(x, "see 9999;", 2, 4);
        faultIs(x, "see 10;", 2, 4);
        faultIs(x, "give eye 3;", 2, 9);
        faultIs(x, "give 3;", 1, 5);
        faultIs(x, "give see 3;", 1, 5);
        faultIs(x, "give eye;", 1, 8);
        faultIs(x, "say 10 to 0;", 2, 4);
        faultIs(x, "say 1 0;", 1, 6);
        faultIs(x, "say 1 to 2;", 2, 9);
        faultIs(x, "lie 1 to ;", 1, 9);
        faultIs(x, "lie 1 to 9999;", 2, 9);
        faultIs(x, "rest 0;", 2, 5);
        faultIs(x, "rest 100;", 2, 5);
        faultIs(x, "feel mouth 9;", 2, 11);
        faultIs(x, "feel moutx 9;", 1, 5);
        faultIs(x, "see\t3;", 1, 3);
        faultIs(x, "see 3\r;", 1, 5);
        faultIs(x, "see -3;", 1, 4);
        faultIs(x, "see " + (char) 233 + ";", 1, 4);
        faultIs(x, "see 3.", 1, 5);
        faultIs(x, ";".repeat(400), 1, 0);
        faultIs(x, "a1".repeat(200), 1, 0);
        faultIs(x, "say" + " ".repeat(397), 1, 400);
        faultIs(x, "x".repeat(400), 1, 0);
        faultIs(x, "see " + "1".repeat(396), 1, 4);
        check.due("none", Check.plan(x, 0, "see 3;"), 1);
        check.due("fault(0)", x.fault(0), 0);
        check.due("fault(1)", x.fault(1), -1);
        x.three(1, 0);
        check.due("a third three", Check.plan(x, 0, "say 1 to 2;"), 1);
    }

    private static void faultsByPlace() {
        check.about("promise 9, several");
        OneEye x = new OneEye();
        x.three(1, 0);
        faultIs(x, "see 10 see", 2, 4);
        faultIs(x, "see x; see 10;", 1, 4);
        faultIs(x, "see 3; # see 10;", 1, 7);
        faultIs(x, "say 10 to 7;", 2, 4);
        String thirty = "see 1;see 1;see 1;see 1;see 1;".repeat(6);
        faultIs(x, thirty + "see x;", 3, 180);
        faultIs(x, thirty + "eye 1;", 1, 180);
        faultIs(x, thirty + "  9;", 1, 182);
        faultIs(x, thirty.substring(0, 178) + "10;rest 1;", 2, 178);
    }

    private static void faultIs(OneEye x, String text, int fault, int place) {
        check.due(text, Check.plan(x, 0, text), -1);
        check.due(text + " fault", x.fault(0), fault);
        check.due(text + " place", x.fault(1), place);
    }

    private static void minutes() {
        check.about("promise 10");
        OneEye x = new OneEye();
        check.due("minutes(0)", x.minutes(0), -1);
        check.due("minutes(-1)", x.minutes(-1), -1);
        check.due("minutes(1001)", x.minutes(1001), -1);
        check.due("minutes(max)", x.minutes(Integer.MAX_VALUE), -1);
        check.due("look(1)", x.look(1), 0);
        check.due("minutes(1000)", x.minutes(1000), 1000);
        for (int i = 2; i <= 99; i++) {
            x.minutes(1000);
        }
        check.due("minutes(1000)", x.minutes(1000), -1);
        check.due("look(1)", x.look(1), 99000);
        check.due("minutes(998)", x.minutes(998), 99998);
        int state = x.look(4);
        check.due("minutes(2)", x.minutes(2), -1);
        check.due("minutes(1)", x.minutes(1), 99999);
        check.due("minutes(1)", x.minutes(1), -1);
        check.due("look(4)", x.look(4), state);
    }

    private static void where() {
        check.about("promise 11");
        OneEye x = new OneEye();
        x.three(3, 0);
        check.due("where(1, 0)", x.where(1, 0), -1);
        check.due("where(-1, 0)", x.where(-1, 0), -1);
        check.due("where(0, 3)", x.where(0, 3), -1);
        check.due("where(0, -1)", x.where(0, -1), -1);
        Check.plan(x, 0, "give ear 2;give ear 2;give mouth 0;give eye 1;");
        x.minutes(1);
        check.due("where(0, 1)", x.where(0, 1), 3);
        x.minutes(1);
        check.due("where(0, 1)", x.where(0, 1), 3);
        x.minutes(1);
        check.due("where(0, 1)", x.where(0, 1), 2);
        // The two gives to who has the thing are nothing, a minute each.
        x.minutes(2);
        check.due("of(0, 6)", x.of(0, 6), 0);
        check.due("of(0, 5)", x.of(0, 5), 3);
        x.minutes(3);
        check.due("where(0, 0)", x.where(0, 0), 1);
        check.due("of(0, 2)", x.of(0, 2), 2);
        // All that is dropped falls on a SPOT, told by two draws.
        OneEye y = new OneEye();
        y.three(1, 1000);
        Check.plan(y, 0, "give eye 1;give eye 2;");
        y.minutes(1);
        int state = 1013904223;
        state = 1664525 * state + 1013904223;
        state = 1664525 * state + 1013904223;
        check.due("where(0, 0)", y.where(0, 0), 10 + (state >>> 8) % 9);
        check.due("look(4)", y.look(4), state);
        y.minutes(1);
        check.due("of(0, 2)", y.of(0, 2), 1);
        check.due("look(4)", y.look(4), state);
        // A hand-over draws if DROP is above 0 alone; the first draw is the SUNSET's.
        for (int drop = 0; drop <= 1; drop++) {
            OneEye z = new OneEye();
            z.three(1, drop);
            Check.plan(z, 0, "give eye 1;");
            z.minutes(1);
            int sunset = 1013904223;
            check.due("look(4)", z.look(4), drop == 0 ? sunset : 1664525 * sunset + 1013904223);
            check.due("where(0, 0)", z.where(0, 0), 1);
        }
        // The edge of DROP: a draw that is not below it does not fall.
        for (int more = 0; more <= 1; more++) {
            OneEye z = new OneEye();
            int second = 1664525 * 1013904223 + 1013904223;
            z.three(1, (second >>> 8) % 1000 + more);
            Check.plan(z, 0, "give eye 1;");
            z.minutes(1);
            check.due("dropped", z.of(0, 3), more);
            check.due("where(0, 0)", z.where(0, 0) >= 10 ? 1 : 0, more);
        }
    }

    private static void handOverOutlivesPlan() {
        check.about("promise 8, a plan that begins anew");
        OneEye x = new OneEye();
        x.three(4, 0);
        Check.plan(x, 0, "give eye 1;rest 9;");
        x.minutes(2);
        check.due("a new plan", Check.plan(x, 0, "give ear 2;"), 1);
        check.due("of(0, 6)", x.of(0, 6), 2);
        check.due("of(0, 5)", x.of(0, 5), 0);
        check.due("where(0, 0)", x.where(0, 0), 3);
        x.minutes(1);
        check.due("of(0, 6)", x.of(0, 6), 1);
        x.minutes(1);
        check.due("where(0, 0)", x.where(0, 0), 1);
        check.due("where(0, 1)", x.where(0, 1), 0);
        check.due("of(0, 5)", x.of(0, 5), 0);
        x.minutes(1);
        check.due("where(0, 1)", x.where(0, 1), 3);
        check.due("a fault", Check.plan(x, 0, "give ear"), -1);
        check.due("of(0, 5)", x.of(0, 5), 1);
        check.due("of(0, 6)", x.of(0, 6), 3);
    }

    private static void restAndFeel() {
        check.about("section 2, rest and feel");
        OneEye x = new OneEye();
        x.three(1, 0);
        Check.plan(x, 0, "rest 1;rest 2;rest 99;");
        x.minutes(1);
        check.due("rest 1 is over", x.of(0, 6), 0);
        x.minutes(1);
        check.due("rest 2", x.of(0, 6), 1);
        check.due("of(0, 5)", x.of(0, 5), 2);
        x.minutes(1);
        check.due("of(0, 6)", x.of(0, 6), 0);
        check.due("of(0, 5)", x.of(0, 5), 2);
        x.minutes(1);
        check.due("rest 99", x.of(0, 6), 98);
        Check.plan(x, 0, "rest 5;");
        check.due("the rest is over", x.of(0, 6), 0);
        x.minutes(1);
        check.due("rest 5", x.of(0, 6), 4);
        feelFinds();
    }

    private static void feelFinds() {
        OneEye x = new OneEye();
        x.three(1, 1000);
        Check.plan(x, 0, "give mouth 1;");
        x.minutes(1);
        int spot = x.where(0, 2) - 10;
        check.due("on a spot", spot >= 0 && spot < 9, true);
        Check.plan(x, 0, "feel mouth " + (spot + 1) % 9 + ";feel eye " + spot + ";feel mouth " + spot + ";");
        x.minutes(4);
        check.due("not felt", x.where(0, 2), 10 + spot);
        x.minutes(1);
        check.due("not felt yet", x.where(0, 2), 10 + spot);
        x.minutes(1);
        check.due("felt by 1, whose hands are empty", x.where(0, 2), 1);
        check.due("no hand-over", x.of(0, 2), 1);
        // What is felt for is over when a plan is told.
        Check.plan(x, 0, "give mouth 2;");
        x.minutes(1);
        spot = x.where(0, 2) - 10;
        Check.plan(x, 0, "feel mouth " + spot + ";");
        x.minutes(1);
        check.due("of(0, 6)", x.of(0, 6), 1);
        Check.plan(x, 0, "");
        check.due("of(0, 6)", x.of(0, 6), 0);
        x.minutes(3);
        check.due("where(0, 2)", x.where(0, 2), 10 + spot);
    }

    private static void night() {
        check.about("section 2, night");
        OneEye x = new OneEye();
        x.three(1, 0);
        x.minutes(1);
        int sunset = x.look(5);
        check.due("sunset", sunset >= 120 && sunset <= 180, true);
        x.minutes(sunset - 2);
        Check.plan(x, 0, "see 1;see 2;");
        x.minutes(1);
        check.due("look(1)", x.look(1), sunset);
        check.due("seen in the last light", x.knows(0, 1), 2);
        x.minutes(1);
        check.due("not seen at sunset", x.knows(0, 2), 0);
        check.due("the step is gone", x.of(0, 5), 2);
        x.minutes(239 - x.look(1));
        Check.plan(x, 0, "see 3;see 4;");
        int state = x.look(4);
        x.minutes(1);
        check.due("not seen in the last minute", x.knows(0, 3), 0);
        check.due("look(1)", x.look(1), 240);
        check.due("the day's sunset is not told yet", x.look(5), sunset);
        check.due("look(4)", x.look(4), state);
        x.minutes(1);
        check.due("seen in the morning", x.knows(0, 4), 2);
        check.due("look(4)", x.look(4), 1664525 * state + 1013904223);
    }

    private static void knowsAndOrigin() {
        check.about("promises 12 and 13");
        OneEye x = new OneEye();
        x.three(1, 0);
        x.three(1, 0);
        check.due("knows(-1, 0)", x.knows(-1, 0), -1);
        check.due("knows(6, 0)", x.knows(6, 0), -1);
        check.due("knows(0, -1)", x.knows(0, -1), -1);
        check.due("knows(0, 10)", x.knows(0, 10), -1);
        check.due("knows(5, 9)", x.knows(5, 9), 0);
        check.due("origin(0, 0, 0)", x.origin(0, 0, 0), -1);
        x.fact(7, true);
        Check.plan(x, 0, "say 7 to 1;see 7;lie 7 to 1;");
        Check.plan(x, 1, "rest 2;give eye 1;lie 7 to 0;");
        x.minutes(2);
        check.due("nothing is known, nothing said", x.look(2), 0);
        check.due("knows(0, 7)", x.knows(0, 7), 1);
        x.minutes(1);
        check.due("knows(3, 7)", x.knows(3, 7), 2);
        originIs(x, 3, 0, 1, 1, 1);
        x.minutes(1);
        check.due("knows(0, 7)", x.knows(0, 7), 1);
        originIs(x, 0, 0, 1, 2, 2);
        check.due("what 4", x.origin(0, 7, 4), -1);
        check.due("what -1", x.origin(0, 7, -1), -1);
        check.due("fact 10", x.origin(0, 10, 0), -1);
        check.due("person 6", x.origin(6, 7, 0), -1);
        // What is known does not change with the FACT; seen anew it has a new origin.
        x.fact(7, false);
        check.due("knows(0, 7)", x.knows(0, 7), 1);
        Check.plan(x, 0, "see 7;say 7 to 0;");
        x.minutes(1);
        check.due("knows(0, 7)", x.knows(0, 7), 2);
        originIs(x, 0, 0, 4, 0, 0);
        x.minutes(1);
        originIs(x, 0, 0, 4, 1, 0);
        Check.plan(x, 1, "see 7;");
        x.minutes(1);
        originIs(x, 4, 4, 6, 0, 0);
        originIs(x, 3, 0, 1, 1, 1);
        nothingWithoutEyeMouthOrEar();
    }

    private static void originIs(OneEye x, int p, int who, int minute, int sayings, int lies) {
        check.due("origin(" + p + ", 7, 0)", x.origin(p, 7, 0), who);
        check.due("origin(" + p + ", 7, 1)", x.origin(p, 7, 1), minute);
        check.due("origin(" + p + ", 7, 2)", x.origin(p, 7, 2), sayings);
        check.due("origin(" + p + ", 7, 3)", x.origin(p, 7, 3), lies);
    }

    private static void nothingWithoutEyeMouthOrEar() {
        OneEye x = new OneEye();
        x.three(1, 1000);
        x.three(1, 1000);
        Check.plan(x, 0, "see 1;say 1 to 1;give eye 1;see 2;give mouth 1;say 1 to 0;");
        Check.plan(x, 1, "give ear 1;");
        x.minutes(6);
        check.due("three 1 has no ear", x.knows(3, 1), 0);
        check.due("nothing was said", x.look(2), 0);
        check.due("nothing was seen", x.knows(0, 2), 0);
        check.due("all steps are gone", x.of(0, 5), 6);
        check.due("three fell", x.of(0, 3) + x.of(1, 3), 3);
    }

    private static void noises() {
        check.about("promises 14 and 15");
        OneEye x = new OneEye();
        x.three(2, 0);
        x.three(1, 0);
        check.due("noise(-1)", x.noise(-1), -1);
        check.due("noise(100000)", x.noise(100000), -1);
        check.due("noise(1)", x.noise(1), 0);
        check.due("noise(1)", x.noise(1), 1);
        check.due("noise(2)", x.noise(2), 2);
        check.due("noise(99999)", x.noise(99999), 3);
        check.due("heard(6)", x.heard(6), -1);
        check.due("heard(-1)", x.heard(-1), -1);
        Check.plan(x, 0, "rest 1;give ear 2;");
        x.minutes(1);
        check.due("noise(0)", x.noise(0), -1);
        check.due("heard(3)", x.heard(3), 0);
        x.minutes(1);
        check.due("missed", x.of(0, 7), 2);
        check.due("heard(3)", x.heard(3), 2);
        check.due("of(1, 7)", x.of(1, 7), 0);
        x.minutes(1);
        check.due("heard(2), who has just got the ear", x.heard(2), 1);
        check.due("heard(0)", x.heard(0), 0);
        check.due("missed", x.of(0, 7), 2);
        for (int i = 4; i < 20; i++) {
            check.due("noise(3)", x.noise(3), i);
        }
        check.due("noise(3)", x.noise(3), -1);
        check.due("look(6)", x.look(6), 20);
        x.minutes(1);
        check.due("heard(2)", x.heard(2), 17);
        check.due("noise(4)", x.noise(4), -1);
    }

    private static void held() {
        check.about("promise 16");
        OneEye x = new OneEye();
        x.three(3, 0);
        check.due("held(3, 0)", x.held(3, 0), -1);
        check.due("held(-1, 0)", x.held(-1, 0), -1);
        check.due("held(0, 3)", x.held(0, 3), -1);
        check.due("held(0, -1)", x.held(0, -1), -1);
        Check.plan(x, 0, "rest 2;give mouth 2;");
        x.minutes(10);
        check.due("held(0, 0)", x.held(0, 0), 10);
        check.due("held(0, 1)", x.held(0, 1), 10);
        check.due("held(0, 2)", x.held(0, 2), 2);
        check.due("held(1, 2)", x.held(1, 2), 0);
        check.due("held(2, 2)", x.held(2, 2), 6);
        x.three(1, 0);
        x.minutes(5);
        check.due("held(3, 0)", x.held(3, 0), 5);
    }

    private static void of() {
        check.about("promise 17");
        OneEye x = new OneEye();
        x.three(7, 30);
        check.due("of(1, 0)", x.of(1, 0), -1);
        check.due("of(-1, 0)", x.of(-1, 0), -1);
        check.due("of(0, 8)", x.of(0, 8), -1);
        check.due("of(0, -1)", x.of(0, -1), -1);
        check.due("of(0, 0)", x.of(0, 0), 7);
        check.due("of(0, 1)", x.of(0, 1), 30);
        for (int what = 2; what < 8; what++) {
            check.due("of(0, " + what + ")", x.of(0, what), 0);
        }
        x.state(0);
        Check.plan(x, 0, "give eye 1;see 1;");
        x.minutes(1);
        check.due("of(0, 4)", x.of(0, 4), 2);
        check.due("of(0, 5)", x.of(0, 5), 1);
        check.due("of(0, 6)", x.of(0, 6), 6);
        x.minutes(6);
        check.due("of(0, 2)", x.of(0, 2), 1);
        check.due("of(0, 6)", x.of(0, 6), 0);
        x.minutes(9);
        check.due("of(0, 5)", x.of(0, 5), 2);
    }

    private static void book() {
        check.about("promise 18");
        OneEye x = new OneEye();
        x.three(1, 0);
        x.three(1, 0);
        check.due("book(0, 0)", x.book(0, 0), -1);
        x.fact(2, true);
        Check.plan(x, 1, "give ear 2;see 2;see 5;say 2 to 0;lie 5 to 1;");
        x.minutes(10);
        int[][] due = {{3, 2, 1, 0, 3}, {3, 5, 1, 5, 4}};
        for (int i = 0; i < 2; i++) {
            for (int what = 0; what < 5; what++) {
                check.due("book(" + i + ", " + what + ")", x.book(i, what), due[i][what]);
            }
        }
        check.due("book(0, 5)", x.book(0, 5), -1);
        check.due("book(0, -1)", x.book(0, -1), -1);
        check.due("book(2, 0)", x.book(2, 0), -1);
        check.due("book(-1, 0)", x.book(-1, 0), -1);
        check.due("look(2)", x.look(2), 2);
    }

    private static void bookIsFull() {
        check.about("promise 18, a full book");
        OneEye x = new OneEye();
        x.three(1, 0);
        Check.plan(x, 0, "see 1;");
        x.minutes(1);
        for (int i = 0; i < 5; i++) {
            Check.plan(x, 0, "say 1 to 0;".repeat(20));
            x.minutes(20);
        }
        check.due("look(2)", x.look(2), 99);
        check.due("book(98, 4)", x.book(98, 4), 99);
        check.due("book(99, 0)", x.book(99, 0), -1);
        check.due("what is said is heard still", x.origin(0, 1, 2), 100);
    }

    private static void errand() {
        check.about("promise 19");
        OneEye x = new OneEye();
        x.three(5, 0);
        x.three(1, 0);
        check.due("one's own", x.errand(0, 1, 0, 0), -1);
        check.due("no such three", x.errand(0, 1, 2, 0), -1);
        check.due("no such three", x.errand(2, 1, 0, 0), -1);
        check.due("no such three", x.errand(-1, 1, 0, 0), -1);
        check.due("no such fact", x.errand(0, 10, 1, 0), -1);
        check.due("no such fact", x.errand(0, -1, 1, 0), -1);
        check.due("another what", x.errand(0, 1, 1, 2), -1);
        check.due("another what", x.errand(0, 1, 1, -1), -1);
        errandIs(x, "see and say", 1, 2, 0);
        Check.plan(x, 0, "see 1;");
        x.minutes(1);
        errandIs(x, "say", 1, 1, 0);
        Check.plan(x, 0, "give mouth 1;");
        x.minutes(1);
        errandIs(x, "a hand-over is as if done", 1, 6, 1);
        errandIs(x, "give, see, say", 2, 7, 1);
        x.minutes(4);
        Check.plan(x, 0, "give eye 2;");
        x.minutes(5);
        errandIs(x, "eye and mouth with two", 2, 7, 1);
        errandIs(x, "one without things knows", 1, 6, 1);
        Check.plan(x, 0, "give mouth 0;say 1 to 1;");
        x.minutes(6);
        errandIs(x, "known already", 1, 0, 0);
        Check.plan(x, 1, "give ear 1;");
        x.minutes(1);
        errandIs(x, "known, but not by who has the ear", 1, 1, 0);
        // A thing on a SPOT counts as MEMBER 0's.
        OneEye y = new OneEye();
        y.three(5, 1000);
        y.three(1, 0);
        Check.plan(y, 0, "see 1;give mouth 1;");
        y.minutes(6);
        check.due("fell", y.where(0, 2) >= 10, true);
        errandIs(y, "the mouth on a spot", 1, 1, 0);
    }

    private static void errandIs(OneEye x, String what, int f, int minutes, int handOvers) {
        check.due(what + ", minutes", x.errand(0, f, 1, 0), minutes);
        check.due(what + ", hand-overs", x.errand(0, f, 1, 1), handOvers);
    }

    private static void talk() {
        check.about("promise 20");
        OneEye x = new OneEye();
        x.three(1, 0);
        x.three(1, 0);
        check.due("one's own", x.talk(0, 0, 1), -1);
        check.due("no such three", x.talk(0, 2, 1), -1);
        check.due("no such three", x.talk(-1, 0, 1), -1);
        check.due("no such fact", x.talk(0, 1, 10), -1);
        check.due("no such fact", x.talk(0, 1, -1), -1);
        check.due("nobody knows", x.talk(0, 1, 1), -1);
        Check.plan(x, 0, "see 1;");
        x.minutes(1);
        // Five hear it; 3 has an ear, for the four others an ear goes over.
        check.due("one knows", x.talk(0, 1, 1), 9);
        check.due("one knows", x.talk(1, 0, 1), 9);
        Check.plan(x, 0, "say 1 to 1;give ear 1;say 1 to 0;give ear 2;say 1 to 0;");
        x.minutes(1);
        check.due("two know", x.talk(0, 1, 1), 8);
        x.minutes(4);
        check.due("the first three knows", x.talk(0, 1, 1), 4);
        Check.plan(x, 1, "give ear 1;");
        x.minutes(1);
        check.due("the ear is with one who does not", x.talk(0, 1, 1), 3);
        Check.plan(x, 0, "say 1 to 1;rest 1;say 1 to 1;");
        Check.plan(x, 1, "rest 1;give ear 2;");
        x.minutes(3);
        check.due("all know", x.talk(0, 1, 1), 0);
    }

    private static void danger() {
        check.about("promise 21");
        OneEye x = new OneEye();
        check.due("place -1", x.danger(-1, 0, 0, 0), false);
        check.due("place 12", x.danger(12, 0, 0, 0), false);
        check.due("member -1", x.danger(0, -1, 0, 0), false);
        check.due("member 3", x.danger(0, 3, 0, 0), false);
        check.due("thing -1", x.danger(0, 0, -1, 0), false);
        check.due("thing 3", x.danger(0, 0, 3, 0), false);
        check.due("danger -1", x.danger(0, 0, 0, -1), false);
        check.due("danger 10", x.danger(0, 0, 0, 10), false);
        for (int m = 0; m < 3; m++) {
            for (int thing = 0; thing < 3; thing++) {
                check.due("danger", x.danger(11, m, thing, 9), true);
            }
        }
        check.due("way(11)", x.way(11, 0, 0), 0);
        check.due("way(12)", x.way(12, 0, 0), 27);
        check.due("danger", x.danger(11, 2, 1, 4), true);
        check.due("way(12)", x.way(12, 0, 0), 22);
        check.due("who", x.way(12, 0, 21), 6);
    }

    private static void way() {
        check.about("promise 22");
        OneEye x = new OneEye();
        check.due("n 0", x.way(0, 1, 0), -1);
        check.due("n 13", x.way(13, 1, 0), -1);
        check.due("n -1", x.way(-1, 1, 0), -1);
        check.due("toll -1", x.way(1, -1, 0), -1);
        check.due("toll 10", x.way(1, 10, 0), -1);
        check.due("what 1", x.way(3, 1, 1), -1);
        check.due("what 9", x.way(3, 1, 9), -1);
        check.due("what 13", x.way(3, 1, 13), -1);
        check.due("what -1", x.way(3, 1, -1), -1);
        check.due("what 12", x.way(3, 1, 12), 0);
        x.danger(0, 0, 0, 3);
        x.danger(1, 1, 0, 4);
        x.danger(1, 2, 0, 5);
        // Of the EYE: stay with 0 for 3; go from 1 or 2 to 0 for TOLL.
        check.due("toll 3", x.way(2, 3, 0), 3);
        check.due("toll 3, place 0: the first", x.way(2, 3, 10), 0);
        check.due("toll 2", x.way(2, 2, 0), 2);
        check.due("toll 2, place 0", x.way(2, 2, 10), 9);
        check.due("toll 2, place 1", x.way(2, 2, 11), 0);
        x.danger(0, 0, 1, 1);
        x.danger(0, 1, 2, 1);
        x.danger(0, 0, 2, 1);
        check.due("who has what", x.way(1, 0, 10), 9 + 3 + 2);
    }

    private static void spotAndFelt() {
        check.about("promises 23 and 24");
        OneEye x = new OneEye();
        check.due("spot -1", x.spot(-1, 0, 1), false);
        check.due("spot 9", x.spot(9, 0, 1), false);
        check.due("weight -1", x.spot(0, -1, 1), false);
        check.due("weight 100", x.spot(0, 100, 1), false);
        check.due("time 0", x.spot(0, 0, 0), false);
        check.due("time 10", x.spot(0, 0, 10), false);
        check.due("felt()", x.felt(), 0);
        check.due("spot", x.spot(8, 99, 9), true);
        check.due("felt()", x.felt(), 891);
        check.due("spot", x.spot(0, 99, 9), true);
        check.due("felt()", x.felt(), 1782);
        check.due("spot", x.spot(4, 1, 1), true);
        check.due("felt()", x.felt(), 1782 + 10);
        for (int s = 0; s < 9; s++) {
            x.spot(s, 99, 9);
        }
        check.due("all alike", x.felt(), 99 * 9 * (1 + 2 + 3 + 4 + 5 + 1 + 2 + 3 + 4));
    }

    private static void liars() {
        check.about("promise 25");
        OneEye x = new OneEye();
        x.three(1, 0);
        x.three(1, 0);
        x.three(1, 0);
        check.due("nothing said", x.liars(), 0);
        x.fact(1, true);
        Check.plan(x, 0, "see 1;say 1 to 2;");
        Check.plan(x, 1, "see 1;lie 1 to 2;");
        Check.plan(x, 2, "see 1;rest 1;see 1;lie 1 to 1;");
        x.minutes(2);
        check.due("0 or 3: the least", x.liars(), 1);
        x.minutes(2);
        check.due("0 alone against two", x.liars(), 1);
        Check.plan(x, 0, "give mouth 1;give eye 1;see 1;say 1 to 0;");
        x.minutes(4);
        check.due("two against two", x.liars(), 3);
        Check.plan(x, 0, "give mouth 2;give eye 2;see 1;say 1 to 0;");
        x.minutes(4);
        check.due("three against two", x.liars(), 8 + 64);
        Check.plan(x, 0, "lie 1 to 0;");
        x.minutes(1);
        check.due("2 said both", x.liars(), 1 + 2 + 4);
    }

    private static void watches() {
        check.about("promises 26 and 27");
        OneEye x = new OneEye();
        check.due("watch(0)", x.watch(0), -1);
        check.due("watch(100)", x.watch(100), -1);
        check.due("watch(-1)", x.watch(-1), -1);
        check.due("watches(0)", x.watches(0), 0);
        check.due("watches(10)", x.watches(10), -1);
        check.due("watch(99)", x.watch(99), 0);
        check.due("watches(0)", x.watches(0), 99);
        check.due("watches(10)", x.watches(10), 0);
        check.due("watches(11)", x.watches(11), -1);
        check.due("watches(9)", x.watches(9), -1);
        check.due("watches(1)", x.watches(1), -1);
        check.due("watches(-1)", x.watches(-1), -1);
        for (int i = 1; i < 9; i++) {
            check.due("watch(1)", x.watch(i == 8 ? 7 : 1), i);
        }
        check.due("watch(1)", x.watch(1), -1);
        check.due("look(3)", x.look(3), 9);
        check.due("watches(0)", x.watches(0), 92);
        int[] due = {0, 1, 1, 1, 1, 1, 1, 1, 2};
        for (int i = 0; i < 9; i++) {
            check.due("watches(1" + i + ")", x.watches(10 + i), due[i]);
        }
        check.due("watches(19)", x.watches(19), -1);
    }

    private static void rings() {
        check.about("promises 28 and 29");
        OneEye x = new OneEye();
        check.due("no such three", x.lends(0, 0, 1, true), false);
        x.three(1, 0);
        x.three(1, 0);
        x.three(1, 0);
        x.three(1, 0);
        check.due("no such three", x.lends(4, 0, 1, true), false);
        check.due("no such three", x.lends(-1, 0, 1, true), false);
        check.due("x is y", x.lends(0, 1, 1, true), false);
        check.due("x 3", x.lends(0, 3, 1, true), false);
        check.due("x -1", x.lends(0, -1, 1, true), false);
        check.due("y 3", x.lends(0, 1, 3, true), false);
        check.due("y -1", x.lends(0, 1, -1, true), false);
        check.due("ring()", x.ring(), -1);
        // 0 lends the eye to 2 for 1's mouth, 2 the ear to 1 for the eye, 1 the mouth for the ear.
        x.lends(0, 0, 2, true);
        x.lends(2, 1, 0, true);
        check.due("not closed", x.ring(), -1);
        x.lends(1, 2, 1, true);
        check.due("three", x.ring(), 7);
        // A ring of two is fewer, though its number is more.
        x.lends(3, 0, 1, true);
        check.due("2 and 3", x.ring(), 12);
        x.lends(1, 1, 0, true);
        check.due("1 and 3 are less", x.ring(), 10);
        x.lends(3, 0, 1, false);
        check.due("three again", x.ring(), 7);
        x.lends(1, 2, 1, false);
        check.due("none", x.ring(), -1);
        ringAmongFour();
    }

    private static void ringAmongFour() {
        OneEye x = new OneEye();
        for (int t = 0; t < 4; t++) {
            x.three(1, 0);
        }
        // Eye, ear, eye and mouth may go round 0, 2, 1, 3, but two that lend to each other are fewer.
        x.lends(0, 0, 2, true);
        x.lends(2, 1, 0, true);
        x.lends(1, 0, 1, true);
        x.lends(3, 2, 0, true);
        check.due("1 and 2 by themselves", x.ring(), 6);
        x.lends(2, 1, 0, false);
        check.due("0 and 3 by themselves", x.ring(), 9);
        OneEye y = new OneEye();
        for (int t = 0; t < 4; t++) {
            y.three(1, 0);
        }
        // A chain that would need one THREE twice is no ring.
        y.lends(0, 1, 0, true);
        y.lends(0, 2, 1, true);
        y.lends(1, 0, 2, true);
        check.due("one of them twice", y.ring(), -1);
    }

    private static void image() {
        check.about("promise 30");
        OneEye x = new OneEye();
        check.due("none", x.image(false), false);
        x.three(3, 500);
        Check.plan(x, 0, "give eye 1;give ear 2;give mouth 1;");
        x.minutes(2);
        check.due("taken", x.image(true), true);
        x.minutes(50);
        int[] places = {x.where(0, 0), x.where(0, 1), x.where(0, 2), x.look(4), x.of(0, 3)};
        for (int i = 0; i < 2; i++) {
            check.due("gone back to", x.image(false), true);
            check.due("look(1)", x.look(1), 2);
            check.due("where(0, 0)", x.where(0, 0), 3);
            check.due("of(0, 6)", x.of(0, 6), 1);
            check.due("of(0, 2)", x.of(0, 2), 0);
            x.minutes(50);
            int[] again = {x.where(0, 0), x.where(0, 1), x.where(0, 2), x.look(4), x.of(0, 3)};
            for (int k = 0; k < 5; k++) {
                check.due("all goes on alike " + k, again[k], places[k]);
            }
        }
        check.due("taken anew", x.image(true), true);
        x.minutes(1);
        x.image(false);
        check.due("look(1)", x.look(1), 52);
    }

    private static void imageKeepsAllButTapeAndFault() {
        check.about("promise 30, what it keeps");
        OneEye x = new OneEye();
        x.image(true);
        x.three(1, 0);
        x.fact(3, true);
        x.noise(0);
        Check.plan(x, 0, "see 3;say 3 to 0;");
        x.minutes(2);
        x.trust(0, 0, false);
        x.danger(0, 0, 0, 9);
        x.danger(0, 1, 0, 9);
        x.danger(0, 2, 0, 9);
        x.spot(0, 5, 5);
        x.watch(5);
        x.lends(0, 0, 1, true);
        Check.plan(x, 0, "see");
        x.feed(0, 0, 0, 0, 0);
        x.image(false);
        for (int what = 0; what < 20; what++) {
            int due = what == 5 || what >= 7 && what < 10 ? -1 : 0;
            check.due("look(" + what + ")", x.look(what), due);
        }
        check.due("fault(0)", x.fault(0), 1);
        check.due("fault(1)", x.fault(1), 3);
        check.due("feed", x.feed(0, 0, 0, 0, 0), 40);
        check.due("way", x.way(1, 0, 0), 0);
        check.due("felt", x.felt(), 0);
        x.end(0);
        x.three(1, 0);
        x.three(1, 0);
        check.due("knows", x.knows(0, 3), 0);
        check.due("of(0, 4)", x.of(0, 4), 0);
        check.due("heard", x.heard(0), 0);
        check.due("held", x.held(0, 0), 0);
        x.lends(1, 1, 0, true);
        check.due("ring", x.ring(), -1);
        Check.plan(x, 0, "see 3;lie 3 to 0;");
        x.minutes(2);
        check.due("trusts again", x.knows(0, 3), 1);
        imageKeepsWhatWasThere();
        // What is told behind the taking does not come into the image.
        x.image(true);
        x.fact(5, true);
        x.image(false);
        check.due("look(15)", x.look(15), 0);
    }

    private static void imageKeepsWhatWasThere() {
        OneEye x = new OneEye();
        x.three(2, 0);
        x.three(1, 0);
        x.fact(7, true);
        Check.plan(x, 0, "see 7;say 7 to 1;rest 9;");
        x.noise(4);
        x.minutes(3);
        x.trust(3, 0, false);
        x.spot(2, 9, 9);
        x.danger(0, 2, 2, 9);
        x.danger(0, 1, 2, 9);
        x.danger(0, 0, 2, 9);
        x.lends(0, 0, 1, true);
        x.lends(1, 1, 0, true);
        x.watch(7);
        x.image(true);
        Check.plan(x, 0, "give eye 1;lie 7 to 0;lie 7 to 1;");
        Check.plan(x, 1, "see 7;lie 7 to 1;give ear 2;");
        x.fact(7, false);
        x.minutes(20);
        x.trust(3, 0, true);
        x.spot(2, 1, 1);
        x.danger(0, 0, 2, 0);
        x.lends(0, 0, 1, false);
        x.watch(9);
        x.image(false);
        originIs(x, 3, 0, 0, 1, 0);
        originIs(x, 0, 0, 0, 0, 0);
        check.due("knows(3, 7)", x.knows(3, 7), 1);
        check.due("look(17)", x.look(17), 1);
        check.due("look(2)", x.look(2), 1);
        check.due("look(3)", x.look(3), 1);
        check.due("where(0, 0)", x.where(0, 0), 0);
        check.due("where(1, 1)", x.where(1, 1), 0);
        check.due("of(0, 4)", x.of(0, 4), 3);
        check.due("of(0, 5)", x.of(0, 5), 3);
        check.due("of(0, 6)", x.of(0, 6), 8);
        check.due("of(1, 4)", x.of(1, 4), 0);
        check.due("held(0, 0)", x.held(0, 0), 3);
        check.due("heard(3)", x.heard(3), 0);
        check.due("felt()", x.felt(), 81);
        check.due("way", x.way(1, 0, 0), 9);
        check.due("ring()", x.ring(), 3);
        check.due("watches(0)", x.watches(0), 7);
        x.minutes(2);
        check.due("heard(3)", x.heard(3), 1);
        Check.plan(x, 0, "lie 7 to 1;");
        x.minutes(1);
        check.due("does not trust", x.knows(3, 7), 1);
    }

    private static void look() {
        check.about("promise 31");
        OneEye x = new OneEye();
        x.three(1, 0);
        x.watch(3);
        x.watch(4);
        x.noise(7);
        x.fact(2, true);
        x.state(99);
        check.due("look(0)", x.look(0), 1);
        check.due("look(3)", x.look(3), 2);
        check.due("look(4)", x.look(4), 99);
        check.due("look(5)", x.look(5), -1);
        check.due("look(6)", x.look(6), 1);
        check.due("look(12)", x.look(12), 1);
        check.due("look(-1)", x.look(-1), -1);
        check.due("look(7)", x.look(7), -1);
        check.due("look(9)", x.look(9), -1);
        check.due("look(20)", x.look(20), -1);
        x.minutes(8);
        check.due("look(1)", x.look(1), 8);
        check.due("look(6), gone or not", x.look(6), 1);
        check.due("look(5)", x.look(5), 120 + ((1664525 * 99 + 1013904223) >>> 8) % 61);
    }
}
