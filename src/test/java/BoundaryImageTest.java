/** The document's boundary cases, promises 30 and 31: THE IMAGE, and what can be looked at. */
public final class BoundaryImageTest {
    private static final Check check = new Check();

    public static void main(String[] args) {
        Cases.run(BoundaryImageTest.class, check);
    }

    /** Other words for all that Twins.busy tells. */
    private static void tellAllAnew(OneEye x) {
        x.state(-5);
        x.three(7, 7);
        x.end(0);
        for (int t = 0; t < 4; t++) {
            Check.plan(x, t, "give ear 2;see 1;lie 1 to 0;lie 2 to 1;rest 50;see 4;");
        }
        for (int p = 0; p < 12; p++) {
            x.trust(p, p % 4, p % 2 == 0);
        }
        x.fact(1, false);
        x.fact(4, true);
        x.noise(6);
        x.noise(20);
        x.danger(0, 0, 0, 0);
        x.danger(3, 0, 2, 8);
        x.danger(3, 2, 2, 8);
        x.danger(11, 2, 1, 0);
        x.danger(11, 0, 1, 9);
        x.danger(11, 1, 1, 9);
        x.spot(0, 0, 9);
        x.spot(3, 30, 9);
        x.watch(30);
        x.lends(0, 0, 1, false);
        x.lends(1, 2, 1, true);
        x.lends(2, 1, 2, true);
        x.minutes(600);
        // What was thought out of these words must not stay either.
        x.liars();
        x.felt();
        x.watches(0);
        x.way(12, 0, 0);
        x.talk(0, 1, 1);
    }

    /** Makes TAPE and fault() alike, which THE IMAGE does not keep. */
    private static void forgetTape(OneEye x) {
        x.text(-1);
    }

    // ---- Promise 30

    @Says("THE IMAGE is taken (true), or gone back to (false): true; false if there is none.")
    static void promise30_noneToGoBackTo() {
        Twins.unchanged(check, x -> { }, x -> check.due("image(false)", x.image(false), false));
        Twins.Lead lead = x -> {
            x.three(3, 300);
            Check.plan(x, 0, "give eye 1;see 1;");
            x.minutes(2);
        };
        Twins.unchanged(check, lead, x -> check.due("image(false)", x.image(false), false));
    }

    @Says("THE IMAGE is taken (true), or gone back to (false): true")
    static void promise30_ofANewObject() {
        Twins.alike(check, x -> x.image(true), x -> {
            check.due("taken", x.image(true), true);
            tellAllAnew(x);
            check.due("gone back to", x.image(false), true);
        });
    }

    @Says("all that is and was told but the TAPE and fault(), as it was when it was taken")
    static void promise30_allIsAsItWas() {
        Twins.alike(check, x -> {
            Twins.busy(x);
            x.image(true);
            forgetTape(x);
        }, x -> {
            Twins.busy(x);
            x.image(true);
            tellAllAnew(x);
            x.image(false);
            forgetTape(x);
        });
    }

    @Says("all that is and was told but the TAPE and fault(), as it was when it was taken")
    static void promise30_whatIsKnownAndSaidIsAsItWas() {
        knownAndSaidIsAsItWas(true);
        knownAndSaidIsAsItWas(false);
    }

    private static void knownAndSaidIsAsItWas(boolean so) {
        OneEye x = Edge.threes(2);
        x.fact(4, so);
        Check.plan(x, 0, "see 4;lie 4 to 1;");
        x.minutes(2);
        x.image(true);
        x.fact(4, !so);
        Check.plan(x, 1, "give eye 1;give ear 1;see 4;give mouth 1;say 4 to 1;lie 4 to 1;give ear 0;"
            + "lie 4 to 1;lie 4 to 0;");
        x.minutes(9);
        check.due("it was said both so and not so", x.liars() != 0, true);
        x.image(false);
        int[] due = {0, 0, 1, 1};
        for (int what = 0; what < 4; what++) {
            check.due("origin(3, 4, " + what + ")", x.origin(3, 4, what), due[what]);
            check.due("origin(0, 4, " + what + ")", x.origin(0, 4, what), 0);
            check.due("origin(4, 4, " + what + ")", x.origin(4, 4, what), -1);
        }
        check.due("knows(3, 4)", x.knows(3, 4), so ? 2 : 1);
        check.due("knows(0, 4)", x.knows(0, 4), so ? 1 : 2);
        check.due("it was said once", x.liars(), 0);
        check.due("lines", x.look(2), 1);
    }

    @Says("THE IMAGE is taken (true)")
    static void promise30_takingItChangesNothingElse() {
        Twins.Lead lead = x -> {
            Twins.busy(x);
            x.image(true);
        };
        Twins.unchanged(check, lead, x -> check.due("taken again", x.image(true), true));
        OneEye x = new OneEye();
        OneEye y = new OneEye();
        Twins.busy(x);
        Twins.busy(y);
        y.image(true);
        for (int t = 0; t < 3; t++) {
            for (int what = 0; what < 8; what++) {
                check.due("of", y.of(t, what), x.of(t, what));
            }
        }
        check.due("the TAPE", y.feed(0, 0, 0, 0, 0), x.feed(0, 0, 0, 0, 0));
        check.due("fault(0)", y.fault(0), 2);
    }

    @Says("gone back to it may be more than once")
    static void promise30_moreThanOnce() {
        Twins.alike(check, x -> {
            Twins.busy(x);
            x.image(true);
            forgetTape(x);
        }, x -> {
            Twins.busy(x);
            x.image(true);
            for (int i = 0; i < 4; i++) {
                x.minutes(7 * i + 1);
                x.fact(i, i % 2 == 0);
                x.state(i);
                check.due("gone back to", x.image(false), true);
            }
            check.due("gone back to at once again", x.image(false), true);
            forgetTape(x);
        });
    }

    @Says("as it was when it was taken")
    static void promise30_takenAnewTheLaterIsKept() {
        OneEye x = Edge.threes(1);
        for (int i = 1; i <= 3; i++) {
            x.minutes(10);
            check.due("taken", x.image(true), true);
            x.minutes(5);
            check.due("gone back to", x.image(false), true);
            check.due("MINUTE", x.look(1), 10 * i);
        }
    }

    @Says("all that is and was told but the TAPE and fault()")
    static void promise30_tapeIsNotKept() {
        OneEye x = Edge.threes(1);
        Check.feed(x, "see 1;see 2;");
        x.image(true);
        check.due("text", x.text(0), 2);
        x.image(false);
        check.due("the TAPE is empty still", x.end(1), false);
        check.due("but the PLAN is not told", x.of(0, 4), 0);
        Check.feed(x, "see 3;");
        x.image(false);
        check.due("the TAPE has six still", x.end(7), false);
        check.due("the TAPE has six still", x.end(6), true);
        check.due("text", x.text(0), 1);
        x.minutes(1);
        check.due("knows(0, 3)", x.knows(0, 3), 2);
    }

    @Says("all that is and was told but the TAPE and fault()")
    static void promise30_faultIsNotKept() {
        OneEye x = Edge.threes(1);
        x.image(true);
        Check.plan(x, 0, "see 10;");
        x.image(false);
        check.due("fault(0)", x.fault(0), 2);
        check.due("fault(1)", x.fault(1), 4);
        x.image(true);
        Check.plan(x, 0, "see 1;");
        x.image(false);
        check.due("fault(0)", x.fault(0), 0);
        check.due("fault(1)", x.fault(1), -1);
    }

    @Says("an image from which all goes on, in a hand-over, too")
    static void promise30_inAHandOver() {
        for (int taken = 1; taken <= 8; taken++) {
            for (int drop = 0; drop <= 1000; drop += 500) {
                handOverGoesOn(taken, drop);
            }
        }
    }

    private static void handOverGoesOn(int taken, int drop) {
        OneEye x = new OneEye();
        x.state(taken * 1000003);
        x.three(9, drop);
        Check.plan(x, 0, "give ear 2;see 1;");
        x.minutes(taken);
        x.image(true);
        x.minutes(10 - taken);
        int where = x.where(0, 1);
        int state = x.look(4);
        Check.plan(x, 0, "give eye 1;give mouth 1;rest 9;");
        x.minutes(12);
        x.image(false);
        check.due("handed over", x.where(0, 1), 3);
        check.due("the EYE is back", x.where(0, 0), 0);
        check.due("minutes left", x.of(0, 6), 9 - taken);
        check.due("HANDED", x.of(0, 2), 0);
        x.minutes(9 - taken);
        check.due("where it came to", x.where(0, 1), where);
        check.due("HANDED", x.of(0, 2), 1);
        check.due("STATE", x.look(4), state);
        x.minutes(1);
        check.due("the PLAN goes on", x.origin(0, 1, 1), 9);
    }

    @Says("an image from which all goes on")
    static void promise30_inARestAndInAFeeling() {
        OneEye x = new OneEye();
        x.state(Draws.stateForSpot(7));
        x.three(1, 1000);
        Check.plan(x, 0, "give ear 1;rest 3;feel ear 7;");
        x.minutes(2);
        x.image(true);
        check.due("empty", Check.plan(x, 0, ""), 0);
        x.image(false);
        check.due("the rest goes on", x.of(0, 6), 2);
        x.minutes(3);
        x.image(true);
        check.due("empty", Check.plan(x, 0, ""), 0);
        x.minutes(9);
        x.image(false);
        check.due("it is felt for", x.of(0, 6), 1);
        x.minutes(1);
        check.due("felt", x.where(0, 1), 1);
    }

    @Says({"NONE if one can't be, or there are four", "or there are twenty", "or there are nine"})
    static void promise30_whatWasFullHasRoomAgain() {
        OneEye x = Edge.threes(3);
        for (int i = 0; i < 19; i++) {
            x.noise(2);
        }
        for (int i = 0; i < 8; i++) {
            x.watch(5);
        }
        x.image(true);
        for (int turn = 0; turn < 2; turn++) {
            check.due("the fourth", x.three(4, 0), 3);
            check.due("the fifth", x.three(4, 0), -1);
            check.due("the 20th", x.noise(3), 19);
            check.due("the 21st", x.noise(3), -1);
            check.due("the ninth", x.watch(6), 8);
            check.due("the tenth", x.watch(6), -1);
            Check.plan(x, 3, "see 1;give eye 1;");
            x.minutes(5);
            check.due("knows", x.knows(9, 1), 2);
            x.image(false);
            check.due("the fourth is gone", x.of(3, 0), -1);
            check.due("and its people", x.knows(9, 1), -1);
        }
        x.three(2, 0);
        check.due("it comes anew", x.knows(9, 1), 0);
        check.due("with its EYE", x.where(3, 0), 0);
        check.due("without a PLAN", x.of(3, 4), 0);
        check.due("and HAND of its own", x.of(3, 0), 2);
    }

    // ---- Promise 31

    @Says("NONE for another what.")
    static void promise31_anotherWhat() {
        OneEye x = new OneEye();
        Twins.busy(x);
        for (int what : Edge.outside(0, 19)) {
            check.due("look(" + what + ")", x.look(what), -1);
        }
        for (int what = 7; what < 10; what++) {
            check.due("look(" + what + ")", x.look(what), -1);
        }
    }

    @Says("5 SUNSET of the DAY (NONE: no MINUTE went by yet; told by the place in the DAY)")
    static void promise31_noSunsetTillAMinuteWentBy() {
        OneEye x = Edge.threes(1);
        x.state(Draws.stateForSunset(180));
        check.due("look(5)", x.look(5), -1);
        x.minutes(0);
        check.due("look(5)", x.look(5), -1);
        x.minutes(1);
        check.due("look(5)", x.look(5), 180);
    }

    @Says("told by the place in the DAY")
    static void promise31_sunsetIsToldByThePlaceInTheDay() {
        OneEye x = new OneEye();
        Draws d = new Draws(0);
        for (int day = 0; day < 10; day++) {
            x.minutes(240);
            int due = 120 + d.of(61);
            check.due("DAY " + day, x.look(5), due);
            check.due("DAY " + day + " within the DAY", due >= 120 && due <= 180, true);
        }
    }

    @Says("10 + f 1 if FACT f is so, else 0")
    static void promise31_eachFact() {
        for (int f = 0; f < 10; f++) {
            OneEye x = new OneEye();
            x.fact(f, true);
            for (int g = 0; g < 10; g++) {
                check.due("FACT " + g, x.look(10 + g), g == f ? 1 : 0);
            }
        }
    }

    @Says("0 THREES, 1 MINUTE, 2 lines of THE BOOK, 3 WATCHES, 4 STATE")
    static void promise31_countsFromNoneToAll() {
        OneEye x = new OneEye();
        for (int i = 0; i <= 4; i++) {
            check.due("THREES", x.look(0), i);
            x.three(1, 0);
        }
        check.due("THREES", x.look(0), 4);
        for (int i = 0; i <= 9; i++) {
            check.due("WATCHES", x.look(3), i);
            x.watch(1);
        }
        check.due("WATCHES", x.look(3), 9);
        for (int i = 0; i <= 20; i++) {
            check.due("NOISES", x.look(6), i);
            x.noise(5);
        }
        check.due("NOISES", x.look(6), 20);
        check.due("MINUTE", x.look(1), 0);
        x.minutes(1000);
        check.due("MINUTE", x.look(1), 1000);
        check.due("those that are gone count", x.look(6), 20);
        check.due("lines", x.look(2), 0);
        x.state(-1);
        check.due("STATE may be -1", x.look(4), -1);
    }
}
