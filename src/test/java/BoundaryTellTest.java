/** The document's boundary cases, promises 1 to 5: a new object, STATE, THREES, FACTS, TRUST. */
public final class BoundaryTellTest {
    private static final Check check = new Check();

    public static void main(String[] args) {
        Cases.run(BoundaryTellTest.class, check);
    }

    @Says("Nobody there.")
    static void promise01_nobodyIsThereAtFirst() {
        OneEye x = new OneEye();
        check.due("look(0)", x.look(0), 0);
        for (int t = 0; t < 4; t++) {
            check.due("where", x.where(t, 0), -1);
            check.due("of", x.of(t, 0), -1);
            check.due("text", x.text(t), -1);
            check.due("lends", x.lends(t, 0, 1, true), false);
            check.due("errand", x.errand(t, 0, (t + 1) % 4, 0), -1);
            check.due("talk", x.talk(t, (t + 1) % 4, 0), -1);
        }
        for (int p = 0; p < 12; p++) {
            check.due("knows", x.knows(p, 0), -1);
            check.due("origin", x.origin(p, 0, 0), -1);
            check.due("heard", x.heard(p), -1);
            check.due("held", x.held(p, 0), -1);
            check.due("trust", x.trust(p, 0, true), false);
        }
    }

    @Says("`NONE = -1`: None.")
    static void promise01_noneIsMinusOne() {
        check.due("NONE", OneEye.NONE, -1);
    }

    @Says({"(an int, 0 at first)", "MINUTE 0 .. 99999 (0 at first)", "each is so or not (not at first)"})
    static void promise01_stateMinuteAndFactsAreNoughtAtFirst() {
        OneEye x = new OneEye();
        check.due("STATE", x.look(4), 0);
        check.due("MINUTE", x.look(1), 0);
        for (int f = 0; f < 10; f++) {
            check.due("FACT " + f, x.look(10 + f), 0);
        }
    }

    @Says({"how many it has", "0 the FAULT (0 without one), 1 its place (NONE)"})
    static void promise01_tapeIsEmptyAndWithoutFaultAtFirst() {
        OneEye x = new OneEye();
        check.due("fault(0)", x.fault(0), 0);
        check.due("fault(1)", x.fault(1), -1);
        check.due("end(1)", x.end(1), false);
        check.due("end(0)", x.end(0), true);
        check.due("feed", x.feed(0, 0, 0, 0, 0), 20);
    }

    @Says({"THE BOOK of sayings", "WATCHES (9 at most)", "NOISES (20 at most)"})
    static void promise01_bookWatchesAndNoisesAreNoneAtFirst() {
        OneEye x = new OneEye();
        check.due("lines", x.look(2), 0);
        check.due("WATCHES", x.look(3), 0);
        check.due("NOISES", x.look(6), 0);
        check.due("book(0, 0)", x.book(0, 0), -1);
        check.due("watches(0)", x.watches(0), 0);
        check.due("watches(10)", x.watches(10), -1);
    }

    @Says("An object is used for at most 512 calls after it has been made")
    static void promise01_the512thCallIsAnsweredStill() {
        OneEye x = new OneEye();
        check.due("three", x.three(1, 0), 0);
        for (int i = 1; i <= 510; i++) {
            check.due("minutes(1)", x.minutes(1), i);
        }
        check.due("call 512", x.held(0, 0), 510);
    }

    @Says("Nobody there.")
    static void promise01_oneObjectIsNotAnother() {
        OneEye x = new OneEye();
        Twins.busy(x);
        Twins.alike(check, y -> { }, y -> Twins.busy(new OneEye()));
        check.due("the first one has its threes", x.look(0), 3);
    }

    @Says("STATE is told: what it was.")
    static void promise02_anyIntCanBeState() {
        OneEye x = new OneEye();
        int before = 0;
        for (int v : new int[] {-1, Integer.MIN_VALUE, Integer.MAX_VALUE, 0, 1}) {
            check.due("state(" + v + ")", x.state(v), before);
            check.due("look(4)", x.look(4), v);
            before = v;
        }
    }

    @Says("it becomes 1664525 times itself + 1013904223 (ints, which wrap)")
    static void promise02_drawsWrapAround() {
        int[] states = {Integer.MAX_VALUE, Integer.MIN_VALUE, -1, 1, 2000000000, -2000000000};
        for (int v : states) {
            OneEye x = new OneEye();
            x.state(v);
            x.minutes(1);
            Draws d = new Draws(v);
            d.of(61);
            check.due("STATE behind " + v, x.look(4), d.state());
        }
        OneEye x = new OneEye();
        x.minutes(1);
        check.due("STATE behind 0", x.look(4), 1013904223);
    }

    @Says("then it is its highest 24 bits (without sign) modulo m")
    static void promise02_drawsAreWithoutSign() {
        int below0 = 0;
        for (int v = 0; v < 200; v++) {
            OneEye x = new OneEye();
            x.state(v * 7919);
            x.minutes(1);
            below0 += x.look(4) < 0 ? 1 : 0;
            check.due("SUNSET behind " + v * 7919, x.look(5), 120 + new Draws(v * 7919).of(61));
        }
        check.due("some STATES were below 0", below0 > 20, true);
    }

    @Says("HAND 1 .. 9 (minutes of a hand-over)")
    static void promise03_handBelow1OrAbove9CantBe() {
        OneEye x = new OneEye();
        for (int hand : Edge.outside(1, 9)) {
            check.due("three(" + hand + ", 0)", x.three(hand, 0), -1);
        }
        check.due("nobody came", x.look(0), 0);
    }

    @Says("HAND 1 .. 9 (minutes of a hand-over)")
    static void promise03_hand1AndHand9CanBe() {
        OneEye x = new OneEye();
        check.due("three(1, 0)", x.three(1, 0), 0);
        check.due("three(9, 0)", x.three(9, 0), 1);
        check.due("of(0, 0)", x.of(0, 0), 1);
        check.due("of(1, 0)", x.of(1, 0), 9);
    }

    @Says("DROP 0 .. 1000")
    static void promise03_dropBelow0OrAbove1000CantBe() {
        OneEye x = new OneEye();
        for (int drop : Edge.outside(0, 1000)) {
            check.due("three(1, " + drop + ")", x.three(1, drop), -1);
        }
        check.due("nobody came", x.look(0), 0);
    }

    @Says("DROP 0 .. 1000")
    static void promise03_drop0AndDrop1000CanBe() {
        OneEye x = new OneEye();
        check.due("three(5, 0)", x.three(5, 0), 0);
        check.due("three(5, 1000)", x.three(5, 1000), 1);
        check.due("of(0, 1)", x.of(0, 1), 0);
        check.due("of(1, 1)", x.of(1, 1), 1000);
    }

    @Says({"THREES 0 .. 3 as they come", "NONE if one can't be, or there are four"})
    static void promise03_theFifthIsRefused() {
        OneEye x = new OneEye();
        for (int t = 0; t < 4; t++) {
            check.due("three", x.three(1 + t, 10 * t), t);
            check.due("look(0)", x.look(0), t + 1);
        }
        check.due("the fifth", x.three(9, 9), -1);
        check.due("look(0)", x.look(0), 4);
        for (int t = 0; t < 4; t++) {
            check.due("HAND", x.of(t, 0), 1 + t);
            check.due("DROP", x.of(t, 1), 10 * t);
        }
        check.due("no THREE 4", x.of(4, 0), -1);
    }

    @Says("NONE if one can't be, or there are four")
    static void promise03_refusedChangesNothing() {
        Twins.unchanged(check, Twins::busy, x -> check.due("HAND 0", x.three(0, 0), -1));
        Twins.unchanged(check, Twins::busy, x -> check.due("DROP 1001", x.three(1, 1001), -1));
        Twins.unchanged(check, Twins::busyWithFour, x -> check.due("a fifth", x.three(2, 2), -1));
    }

    @Says("three t has 3 t, 3 t and 1, 3 t and 2 (its MEMBERS 0, 1, 2)")
    static void promise03_threePeopleComeWithEach() {
        OneEye x = new OneEye();
        for (int t = 0; t < 4; t++) {
            check.due("not there yet", x.heard(3 * t), -1);
            x.three(1, 0);
            for (int m = 0; m < 3; m++) {
                check.due("there", x.heard(3 * t + m), 0);
            }
            check.due("no more of them", x.heard(3 * t + 3), -1);
        }
    }

    @Says({"at first all with MEMBER 0", "a TEXT (empty at first)", "or nothing (nothing at first)"})
    static void promise03_oneThatComesBeginsAnew() {
        OneEye x = new OneEye();
        x.three(1, 0);
        Check.plan(x, 0, "give eye 1;see 1;say 1 to 0;");
        x.minutes(7);
        check.due("three", x.three(3, 5), 1);
        for (int thing = 0; thing < 3; thing++) {
            check.due("where", x.where(1, thing), 0);
            check.due("held", x.held(3, thing), 0);
        }
        for (int what = 2; what < 8; what++) {
            check.due("of(1, " + what + ")", x.of(1, what), 0);
        }
        for (int f = 0; f < 10; f++) {
            check.due("knows", x.knows(3, f), 0);
        }
    }

    @Says({"FACTS 0 .. 9", "true; false if one can't be"})
    static void promise04_factBelow0OrAbove9CantBe() {
        OneEye x = new OneEye();
        for (int f : Edge.outside(0, 9)) {
            check.due("fact(" + f + ", true)", x.fact(f, true), false);
            check.due("fact(" + f + ", false)", x.fact(f, false), false);
        }
        for (int f = 0; f < 10; f++) {
            check.due("look", x.look(10 + f), 0);
        }
    }

    @Says("A FACT is so, or not: true")
    static void promise04_facts0To9AreToldOneByOne() {
        OneEye x = new OneEye();
        for (int f = 0; f < 10; f++) {
            check.due("fact(" + f + ", true)", x.fact(f, true), true);
            for (int g = 0; g < 10; g++) {
                check.due("look", x.look(10 + g), g <= f ? 1 : 0);
            }
        }
        check.due("so again", x.fact(9, true), true);
        check.due("look(19)", x.look(19), 1);
        check.due("fact(0, false)", x.fact(0, false), true);
        check.due("look(10)", x.look(10), 0);
        check.due("look(11)", x.look(11), 1);
    }

    @Says("A FACT is so, or not: true; false if one can't be.")
    static void promise04_refusedChangesNothing() {
        Twins.unchanged(check, Twins::busy, x -> check.due("fact(10)", x.fact(10, true), false));
        Twins.unchanged(check, Twins::busy, x -> check.due("fact(-1)", x.fact(-1, true), false));
    }

    @Says("A person TRUSTS a THREE or not: true; false if one can't be.")
    static void promise05_personThatIsNotThereCantTrust() {
        for (int count = 0; count <= 4; count++) {
            OneEye x = Edge.threes(count);
            for (int p : Edge.outside(0, 3 * count - 1)) {
                check.due("trust(" + p + ", 0)", x.trust(p, 0, false), false);
            }
            if (count > 0) {
                check.due("the first", x.trust(0, 0, false), true);
                check.due("the last", x.trust(3 * count - 1, 0, false), true);
            }
        }
    }

    @Says("A person TRUSTS a THREE or not: true; false if one can't be.")
    static void promise05_threeThatIsNotThereCantBeTrusted() {
        for (int count = 1; count <= 4; count++) {
            OneEye x = Edge.threes(count);
            for (int t : Edge.outside(0, count - 1)) {
                check.due("trust(0, " + t + ")", x.trust(0, t, false), false);
            }
            check.due("the last", x.trust(0, count - 1, false), true);
        }
    }

    @Says("(all at first, told for each MEMBER and THREE)")
    static void promise05_allTrustAllAtFirst() {
        for (int sayer = 0; sayer < 4; sayer++) {
            OneEye x = Edge.threes(4);
            Check.plan(x, sayer, "see 1;say 1 to 0;say 1 to 1;say 1 to 2;say 1 to 3;");
            x.minutes(5);
            for (int t = 0; t < 4; t++) {
                check.due("knows", x.knows(3 * t, 1), 2);
                check.due("by a saying", x.origin(3 * t, 1, 2) > 0, true);
            }
        }
    }

    @Says("(all at first, told for each MEMBER and THREE)")
    static void promise05_oneWhoDoesNotTrustIsToldApartFromAllOthers() {
        for (int p = 0; p < 12; p++) {
            for (int three = 0; three < 4; three++) {
                OneEye x = Edge.threes(4);
                x.trust(p, three, false);
                for (int t = 0; t < 4; t++) {
                    String first = t == p / 3 ? "give ear " + p % 3 + ";" : "rest 1;";
                    Check.plan(x, t, first + "see " + t + ";say " + t + " to " + p / 3 + ";");
                }
                x.minutes(3);
                for (int t = 0; t < 4; t++) {
                    check.due("person " + p + " hears THREE " + t, x.origin(p, t, 2) == 1, t != three);
                }
                check.due("lines", x.look(2), 4);
            }
        }
    }

    @Says("if he TRUSTS the THREE of the sayer")
    static void promise05_trustToldAnewIsTrustAgain() {
        OneEye x = Edge.threes(2);
        x.trust(3, 0, false);
        Check.plan(x, 0, "see 1;say 1 to 1;say 1 to 1;");
        x.minutes(2);
        check.due("not trusted", x.knows(3, 1), 0);
        check.due("true", x.trust(3, 0, true), true);
        check.due("what was said before is not known by it", x.knows(3, 1), 0);
        x.minutes(1);
        check.due("trusted", x.knows(3, 1), 2);
    }

    @Says("A person TRUSTS a THREE or not: true; false if one can't be.")
    static void promise05_refusedChangesNothing() {
        Twins.unchanged(check, Twins::busy, x -> check.due("person 9", x.trust(9, 0, false), false));
        Twins.unchanged(check, Twins::busy, x -> check.due("person -1", x.trust(-1, 0, false), false));
        Twins.unchanged(check, Twins::busy, x -> check.due("THREE 3", x.trust(0, 3, false), false));
        Twins.unchanged(check, Twins::busy, x -> check.due("THREE -1", x.trust(0, -1, false), false));
    }
}
