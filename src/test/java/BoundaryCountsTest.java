/** The document's boundary cases, promises 14 to 18: NOISES, HELD, what is told of a THREE, THE BOOK. */
public final class BoundaryCountsTest {
    private static final Check check = new Check();

    public static void main(String[] args) {
        Cases.run(BoundaryCountsTest.class, check);
    }

    // ---- Promise 14

    @Says("NONE if one can't be (a MINUTE that is gone), or there are twenty.")
    static void promise14_minuteThatIsGone() {
        OneEye x = new OneEye();
        check.due("noise(0)", x.noise(0), 0);
        x.minutes(10);
        for (int minute : new int[] {9, 8, 0, -1, Integer.MIN_VALUE}) {
            check.due("noise(" + minute + ")", x.noise(minute), -1);
        }
        check.due("this MINUTE is not gone", x.noise(10), 1);
        check.due("NOISES", x.look(6), 2);
    }

    @Says("MINUTE 0 .. 99999")
    static void promise14_minuteBeyond99999CantBe() {
        OneEye x = new OneEye();
        for (int minute : Edge.outside(0, 99999)) {
            check.due("noise(" + minute + ")", x.noise(minute), -1);
        }
        check.due("noise(99999)", x.noise(99999), 0);
        check.due("NOISES", x.look(6), 1);
    }

    @Says("NONE if one can't be (a MINUTE that is gone), or there are twenty.")
    static void promise14_the21stIsRefused() {
        OneEye x = Edge.threes(1);
        for (int i = 0; i < 20; i++) {
            check.due("noise(1)", x.noise(1), i);
        }
        check.due("the 21st", x.noise(1), -1);
        check.due("NOISES", x.look(6), 20);
        x.minutes(2);
        check.due("heard", x.heard(0), 20);
        check.due("those that are gone count", x.noise(2), -1);
        check.due("NOISES", x.look(6), 20);
    }

    @Says("A NOISE at a MINUTE: its number")
    static void promise14_refusedChangesNothing() {
        Twins.unchanged(check, Twins::busy, x -> check.due("gone", x.noise(0), -1));
        Twins.unchanged(check, Twins::busy, x -> check.due("beyond", x.noise(100000), -1));
        Twins.Lead full = x -> {
            Twins.busy(x);
            for (int i = 0; i < 18; i++) {
                x.noise(7);
            }
        };
        Twins.unchanged(check, full, x -> check.due("the 21st", x.noise(7), -1));
    }

    // ---- Promise 15

    @Says("NOISES that a person heard; NONE if there is none such.")
    static void promise15_noSuchPerson() {
        for (int count = 0; count <= 4; count++) {
            OneEye x = Edge.threes(count);
            x.noise(0);
            x.minutes(1);
            for (int p : Edge.outside(0, 3 * count - 1)) {
                check.due("heard(" + p + ") of " + count, x.heard(p), -1);
            }
            for (int p = 0; p < 3 * count; p++) {
                check.due("heard(" + p + ")", x.heard(p), p % 3 == 0 ? 1 : 0);
            }
        }
    }

    @Says("(as often as there are such NOISES)")
    static void promise15_asOftenAsThereAreSuchNoises() {
        OneEye x = Edge.threes(2);
        int[] minutes = {2, 0, 2, 1, 2};
        for (int minute : minutes) {
            x.noise(minute);
        }
        int[] due = {1, 2, 5, 5};
        for (int i = 0; i < 4; i++) {
            x.minutes(1);
            check.due("heard behind MINUTE " + i, x.heard(0), due[i]);
            check.due("heard behind MINUTE " + i, x.heard(3), due[i]);
        }
    }

    @Says("behind all THREES' doings of that MINUTE each MEMBER with the EAR of a THREE hears it")
    static void promise15_whoHasTheEarBehindTheDoingsHears() {
        OneEye x = Edge.threes(2);
        x.noise(0);
        Check.plan(x, 0, "give ear 2;");
        Check.plan(x, 1, "give ear 1;");
        x.minutes(1);
        int[] due = {0, 0, 1, 0, 1, 0};
        for (int p = 0; p < 6; p++) {
            check.due("heard(" + p + ")", x.heard(p), due[p]);
        }
        check.due("MISSED", x.of(0, 7) + x.of(1, 7), 0);
    }

    @Says("a THREE whose EAR is with none MISSED it")
    static void promise15_earWithNoneMissesIt() {
        OneEye x = new OneEye();
        x.state(Draws.stateForSpot(5));
        x.three(1, 1000);
        x.three(2, 0);
        x.noise(0);
        x.noise(1);
        x.noise(1);
        Check.plan(x, 0, "give ear 1;feel ear 5;");
        Check.plan(x, 1, "give ear 1;");
        x.minutes(1);
        check.due("on a SPOT", x.where(0, 1), 15);
        check.due("MISSED", x.of(0, 7), 1);
        check.due("handed over", x.where(1, 1), 3);
        check.due("MISSED", x.of(1, 7), 1);
        x.minutes(1);
        check.due("MISSED", x.of(0, 7), 3);
        check.due("MISSED no more", x.of(1, 7), 1);
        check.due("heard", x.heard(4), 2);
        check.due("heard", x.heard(0) + x.heard(1) + x.heard(2) + x.heard(3) + x.heard(5), 0);
    }

    // ---- Promise 16

    @Says("NONE if one can't be.")
    static void promise16_noSuchPerson() {
        for (int count = 0; count <= 4; count++) {
            OneEye x = Edge.threes(count);
            x.minutes(2);
            for (int p : Edge.outside(0, 3 * count - 1)) {
                check.due("held(" + p + ", 0) of " + count, x.held(p, 0), -1);
            }
            for (int p = 0; p < 3 * count; p++) {
                check.due("held(" + p + ", 2)", x.held(p, 2), p % 3 == 0 ? 2 : 0);
            }
        }
    }

    @Says("HELD: minutes that a person had a THING; NONE if one can't be.")
    static void promise16_noSuchThing() {
        OneEye x = Edge.threes(2);
        for (int thing : Edge.outside(0, 2)) {
            check.due("held(0, " + thing + ")", x.held(0, thing), -1);
            check.due("held(5, " + thing + ")", x.held(5, thing), -1);
        }
    }

    @Says("how many minutes each had each THING (behind each MINUTE, all THREES done)")
    static void promise16_handedOverIsHeldByNobody() {
        String[] things = {"eye", "ear", "mouth"};
        for (int thing = 0; thing < 3; thing++) {
            OneEye x = new OneEye();
            x.three(3, 0);
            check.due("at first", x.held(0, thing), 0);
            Check.plan(x, 0, "rest 1;give " + things[thing] + " 2;");
            x.minutes(5);
            for (int other = 0; other < 3; other++) {
                check.due("MEMBER 0", x.held(0, other), other == thing ? 1 : 5);
                check.due("MEMBER 1", x.held(1, other), 0);
                check.due("MEMBER 2", x.held(2, other), other == thing ? 2 : 0);
            }
        }
    }

    @Says("how many minutes each had each THING (behind each MINUTE, all THREES done)")
    static void promise16_whatLiesOnASpotIsHeldByNobody() {
        OneEye x = new OneEye();
        x.state(Draws.stateForSpot(0));
        x.three(1, 1000);
        Check.plan(x, 0, "give mouth 1;rest 4;feel mouth 0;");
        x.minutes(7);
        check.due("MEMBER 0", x.held(0, 2), 0);
        check.due("MEMBER 1, who felt it", x.held(1, 2), 1);
        check.due("MEMBER 2", x.held(2, 2), 0);
    }

    // ---- Promise 17

    @Says("NONE if there is none such, or another what.")
    static void promise17_noSuchThree() {
        for (int count = 0; count <= 4; count++) {
            OneEye x = Edge.threes(count);
            for (int t : Edge.outside(0, count - 1)) {
                check.due("of(" + t + ", 0) of " + count, x.of(t, 0), -1);
            }
            for (int t = 0; t < count; t++) {
                check.due("of(" + t + ", 0)", x.of(t, 0), 1);
            }
        }
    }

    @Says("NONE if there is none such, or another what.")
    static void promise17_anotherWhat() {
        OneEye x = Edge.threes(1);
        for (int what : Edge.outside(0, 7)) {
            check.due("of(0, " + what + ")", x.of(0, what), -1);
        }
    }

    @Says("4 STEPS of its PLAN, 5 which comes next (STEPS: none)")
    static void promise17_whichComesNextUpToNone() {
        OneEye x = Edge.threes(1);
        check.due("without a PLAN", x.of(0, 5), 0);
        Check.plan(x, 0, "see 1;rest 2;give eye 1;");
        int[] due = {1, 2, 2, 3, 3, 3};
        check.due("at first", x.of(0, 5), 0);
        for (int i = 0; i < due.length; i++) {
            x.minutes(1);
            check.due("behind MINUTE " + i, x.of(0, 5), due[i]);
            check.due("STEPS", x.of(0, 4), 3);
        }
    }

    @Says("6 minutes that are left of what it does (0: nothing)")
    static void promise17_minutesLeftDownTo0() {
        OneEye x = new OneEye();
        x.three(3, 0);
        Check.plan(x, 0, "give eye 1;rest 3;feel ear 1;see 1;say 1 to 0;");
        int[] due = {2, 1, 0, 2, 1, 0, 1, 0, 0, 0, 0};
        check.due("at first", x.of(0, 6), 0);
        for (int i = 0; i < due.length; i++) {
            x.minutes(1);
            check.due("behind MINUTE " + i, x.of(0, 6), due[i]);
        }
    }

    @Says("2 HANDED, 3 DROPPED")
    static void promise17_handedAndDroppedFrom0() {
        OneEye x = new OneEye();
        x.three(2, 1000);
        x.three(1, 0);
        Check.plan(x, 0, "give eye 1;give ear 1;give mouth 1;");
        Check.plan(x, 1, "give eye 1;give eye 0;");
        int[] due = {0, 1, 1, 2, 2, 3};
        for (int i = 0; i < 6; i++) {
            x.minutes(1);
            check.due("HANDED", x.of(0, 2), due[i]);
            check.due("DROPPED", x.of(0, 3), due[i]);
        }
        check.due("HANDED", x.of(1, 2), 2);
        check.due("DROPPED", x.of(1, 3), 0);
    }

    // ---- Promise 18

    @Says("NONE if there is none such, or another what.")
    static void promise18_noSuchLine() {
        OneEye x = Edge.threes(1);
        check.due("an empty BOOK", x.book(0, 0), -1);
        Check.plan(x, 0, "see 1;say 1 to 0;say 1 to 0;");
        x.minutes(3);
        for (int i : Edge.outside(0, 1)) {
            for (int what = 0; what < 5; what++) {
                check.due("book(" + i + ", " + what + ")", x.book(i, what), -1);
            }
        }
        check.due("the first line", x.book(0, 4), 1);
        check.due("the last line", x.book(1, 4), 2);
    }

    @Says("what 0 who, 1 the FACT, 2 1 or 0, 3 who heard it, 4 MINUTE")
    static void promise18_anotherWhat() {
        OneEye x = Edge.threes(4);
        x.fact(9, true);
        Check.plan(x, 3, "see 9;say 9 to 2;");
        x.minutes(2);
        int[] due = {9, 9, 1, 6, 1};
        for (int what = 0; what < 5; what++) {
            check.due("book(0, " + what + ")", x.book(0, what), due[what]);
        }
        for (int what : Edge.outside(0, 4)) {
            check.due("book(0, " + what + ")", x.book(0, what), -1);
        }
    }

    @Says("what 0 who, 1 the FACT, 2 1 or 0, 3 who heard it, 4 MINUTE")
    static void promise18_eachSayerAndEachHearer() {
        for (int p = 0; p < 12; p++) {
            for (int q = 0; q < 12; q++) {
                OneEye x = Edge.threes(4);
                if (p / 3 != q / 3) {
                    Check.plan(x, q / 3, "give ear " + q % 3 + ";");
                }
                String ear = p / 3 == q / 3 ? "give ear " + q % 3 + ";" : "rest 1;";
                String eyeAndMouth = "give eye " + p % 3 + ";see 0;give mouth " + p % 3 + ";";
                Check.plan(x, p / 3, ear + eyeAndMouth + "say 0 to " + q / 3 + ";");
                x.minutes(5);
                check.due("lines", x.look(2), 1);
                check.due("who", x.book(0, 0), p);
                check.due("who heard it", x.book(0, 3), q);
                check.due("MINUTE", x.book(0, 4), 4);
            }
        }
    }

    @Says("THE BOOK of sayings (99 at most; no more then)")
    static void promise18_no100thLine() {
        OneEye x = Edge.threes(2);
        Check.plan(x, 0, "see 1;");
        x.minutes(1);
        for (int i = 0; i < 4; i++) {
            Check.plan(x, 0, "say 1 to 1;".repeat(24));
            x.minutes(24);
        }
        Check.plan(x, 0, "say 1 to 1;say 1 to 1;say 1 to 1;lie 1 to 1;");
        x.minutes(2);
        check.due("98 lines", x.look(2), 98);
        x.minutes(1);
        check.due("99 lines", x.look(2), 99);
        x.minutes(1);
        check.due("no more then", x.look(2), 99);
        check.due("line 98", x.book(98, 4), 99);
        check.due("as it was said", x.book(98, 2), 0);
        check.due("no line 99", x.book(99, 0), -1);
        check.due("the first line stays", x.book(0, 4), 1);
        check.due("what is said is heard still", x.knows(3, 1), 1);
    }

    @Says("THE BOOK of sayings (99 at most; no more then): who, FACT, 1 or 0 as it was said, who heard it, MINUTE.")
    static void promise18_whatIsNotTrustedStandsInItToo() {
        OneEye x = Edge.threes(2);
        x.trust(3, 0, false);
        Check.plan(x, 0, "see 1;lie 1 to 1;");
        x.minutes(2);
        int[] due = {0, 1, 1, 3, 1};
        for (int what = 0; what < 5; what++) {
            check.due("book(0, " + what + ")", x.book(0, what), due[what]);
        }
    }
}
