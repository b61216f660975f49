/** The document's boundary cases, promises 6 to 9: the TAPE, texts and their FAULTS. */
public final class BoundaryTapeTest {
    private static final Check check = new Check();
    private static final int BLANKS = 0x20202020;
    private static final String THIRTY = "see 1;".repeat(30);

    public static void main(String[] args) {
        Cases.run(BoundaryTapeTest.class, check);
    }

    private static int feedBlanks(OneEye x) {
        return x.feed(BLANKS, BLANKS, BLANKS, BLANKS, BLANKS);
    }

    private static void faultIs(OneEye x, String text, int fault, int place) {
        check.due("text '" + text + "'", Check.plan(x, 0, text), -1);
        check.due("FAULT of '" + text + "'", x.fault(0), fault);
        check.due("place in '" + text + "'", x.fault(1), place);
    }

    private static void stepsAre(OneEye x, String text, int steps) {
        check.due("text '" + text + "'", Check.plan(x, 0, text), steps);
        check.due("FAULT of '" + text + "'", x.fault(0), 0);
        check.due("place in '" + text + "'", x.fault(1), -1);
    }

    // ---- Promise 6

    @Says("NONE, and nothing comes, if there would be more than 400.")
    static void promise06_400BytesCanBe() {
        OneEye x = Edge.threes(1);
        for (int i = 1; i <= 20; i++) {
            check.due("feed", feedBlanks(x), 20 * i);
        }
        check.due("end(400)", x.end(400), true);
        check.due("text", x.text(0), 0);
    }

    @Says("NONE, and nothing comes, if there would be more than 400.")
    static void promise06_moreThan400AreRefusedAndNothingComes() {
        OneEye x = Edge.threes(1);
        for (int i = 0; i < 20; i++) {
            feedBlanks(x);
        }
        for (int i = 0; i < 3; i++) {
            check.due("feed", x.feed(0, 0, 0, 0, 0), -1);
            check.due("end(401)", x.end(401), false);
        }
        check.due("text", x.text(0), 0);
        check.due("fault(0)", x.fault(0), 0);
    }

    @Says("NONE, and nothing comes, if there would be more than 400.")
    static void promise06_401AreRefusedWholly() {
        OneEye x = Edge.threes(1);
        for (int i = 0; i < 20; i++) {
            feedBlanks(x);
        }
        check.due("end(381)", x.end(381), true);
        check.due("feed", x.feed(0, 0, 0, 0, 0), -1);
        check.due("not one byte came", x.end(382), false);
        check.due("end(380)", x.end(380), true);
        check.due("feed", feedBlanks(x), 400);
        check.due("text", x.text(0), 0);
    }

    @Says("NONE, and nothing comes, if there would be more than 400.")
    static void promise06_refusedChangesNothing() {
        Twins.Lead full = x -> {
            Twins.busy(x);
            for (int i = 0; i < 19; i++) {
                feedBlanks(x);
            }
        };
        Twins.unchanged(check, full, x -> check.due("feed", x.feed(1, 2, 3, 4, 5), -1));
    }

    @Says("Twenty bytes come behind the TAPE, of each number the highest first")
    static void promise06_highestByteComesFirst() {
        for (int place = 0; place < 20; place++) {
            OneEye x = Edge.threes(1);
            int[] words = {BLANKS, BLANKS, BLANKS, BLANKS, BLANKS};
            int shift = 8 * (3 - place % 4);
            words[place / 4] += ('#' - ' ') << shift;
            check.due("feed", x.feed(words[0], words[1], words[2], words[3], words[4]), 20);
            check.due("text", x.text(0), -1);
            check.due("place", x.fault(1), place);
        }
    }

    @Says("Twenty bytes come behind the TAPE, of each number the highest first")
    static void promise06_bytesFrom0To255AreApart() {
        // But for the two blanks each byte alone is no text: what it is shows behind 'see 1'.
        for (int b = 0; b < 256; b++) {
            OneEye x = Edge.threes(1);
            int due = b == ';' ? 1 : -1;
            check.due("see 1 and byte " + b, Check.plan(x, 0, "see 1" + (char) b), due);
            int place = b == ' ' || b == 10 ? 6 : b >= '0' && b <= '9' ? 4 : 5;
            check.due("place, byte " + b, x.fault(1), due == 1 ? -1 : place);
        }
    }

    @Says("Twenty bytes come behind the TAPE")
    static void promise06_bytesComeBehindWhatIsThere() {
        OneEye x = Edge.threes(1);
        Check.feed(x, "see 1;");
        check.due("feed", x.feed(Check.word("see ", 0), Check.word("2;re", 0), Check.word("st 3", 0),
            Check.word(";see", 0), Check.word(" 4; ", 0)), 26);
        check.due("text", x.text(0), 4);
        x.minutes(1);
        check.due("knows(0, 1)", x.knows(0, 1), 2);
        check.due("knows(0, 2)", x.knows(0, 2), 0);
        x.minutes(1);
        check.due("knows(0, 2)", x.knows(0, 2), 2);
    }

    // ---- Promise 7

    @Says("false, changing nothing, if it has not so many, or n is below 0.")
    static void promise07_moreThanThereAreIsRefused() {
        OneEye x = Edge.threes(1);
        check.due("end(1) of none", x.end(1), false);
        Check.feed(x, "see 1;see 2;");
        for (int n : new int[] {13, 20, 400, 401, Integer.MAX_VALUE - 1, Integer.MAX_VALUE}) {
            check.due("end(" + n + ")", x.end(n), false);
        }
        check.due("text", x.text(0), 2);
    }

    @Says("false, changing nothing, if it has not so many, or n is below 0.")
    static void promise07_below0IsRefused() {
        OneEye x = Edge.threes(1);
        check.due("end(-1) of none", x.end(-1), false);
        Check.feed(x, "see 1;see 2;");
        for (int n : new int[] {-1, -2, -12, -400, Integer.MIN_VALUE + 1, Integer.MIN_VALUE}) {
            check.due("end(" + n + ")", x.end(n), false);
        }
        check.due("text", x.text(0), 2);
    }

    @Says("The TAPE has its first n bytes alone: true")
    static void promise07_end0IsEmpty() {
        OneEye x = Edge.threes(1);
        check.due("end(0) of none", x.end(0), true);
        Check.feed(x, "see 1;");
        check.due("end(0)", x.end(0), true);
        check.due("end(1)", x.end(1), false);
        check.due("text", x.text(0), 0);
        check.due("feed", x.feed(0, 0, 0, 0, 0), 20);
    }

    @Says("The TAPE has its first n bytes alone: true")
    static void promise07_allItHasStays() {
        OneEye x = Edge.threes(1);
        Check.feed(x, "see 1;see 2;");
        check.due("end(12)", x.end(12), true);
        check.due("end(12) again", x.end(12), true);
        check.due("text", x.text(0), 2);
    }

    @Says("The TAPE has its first n bytes alone: true")
    static void promise07_firstBytesStayAlone() {
        OneEye x = Edge.threes(1);
        Check.feed(x, "see 1;see 2;see 3;");
        check.due("end(6)", x.end(6), true);
        check.due("what is cut off is gone", x.end(7), false);
        check.due("text", x.text(0), 1);
        x.minutes(3);
        check.due("knows(0, 1)", x.knows(0, 1), 2);
        check.due("knows(0, 2)", x.knows(0, 2), 0);
    }

    @Says("false, changing nothing, if it has not so many, or n is below 0.")
    static void promise07_refusedChangesNothing() {
        Twins.unchanged(check, Twins::busy, x -> check.due("end(-1)", x.end(-1), false));
        Twins.unchanged(check, Twins::busy, x -> check.due("end(12)", x.end(12), false));
    }

    // ---- Promise 8

    @Says("a TEXT (empty at first) = {STEP ;}")
    static void promise08_emptyTextIsAPlanOf0Steps() {
        OneEye x = Edge.threes(1);
        check.due("nothing was fed", x.text(0), 0);
        Check.plan(x, 0, "see 1;");
        stepsAre(x, "", 0);
        check.due("of(0, 4)", x.of(0, 4), 0);
        check.due("of(0, 5)", x.of(0, 5), 0);
        x.minutes(2);
        check.due("knows(0, 1)", x.knows(0, 1), 0);
    }

    @Says("Blanks (32, 10) between.")
    static void promise08_blanksAloneAreAPlanOf0Steps() {
        OneEye x = Edge.threes(1);
        stepsAre(x, " ", 0);
        stepsAre(x, "\n", 0);
        stepsAre(x, " \n".repeat(200), 0);
    }

    @Says("The TAPE, empty then, is the PLAN of a THREE: how many STEPS.")
    static void promise08_tapeIsEmptyThen() {
        OneEye x = Edge.threes(1);
        Check.plan(x, 0, "see 1;");
        check.due("end(1)", x.end(1), false);
        check.due("feed", feedBlanks(x), 20);
    }

    // "It stays as it was" is read as said of the PLAN: "empty then" is said of every text().
    @Says("The TAPE, empty then")
    static void promise08_tapeIsEmptyBehindAFaultToo() {
        OneEye x = Edge.threes(1);
        Check.plan(x, 0, "see;");
        check.due("end(1)", x.end(1), false);
        check.due("feed", feedBlanks(x), 20);
    }

    @Says("The TAPE, empty then")
    static void promise08_tapeIsEmptyBehindNoSuchThreeToo() {
        OneEye x = Edge.threes(1);
        Check.plan(x, 1, "see 1;");
        check.due("end(1)", x.end(1), false);
        check.due("feed", feedBlanks(x), 20);
    }

    @Says("NONE: no such one (fault() tells 0)")
    static void promise08_noSuchThree() {
        for (int count = 0; count <= 4; count++) {
            for (int t : Edge.outside(0, count - 1)) {
                OneEye x = Edge.threes(count);
                check.due("text(" + t + ") of " + count, Check.plan(x, t, "rest 1;"), -1);
                for (int own = 0; own < count; own++) {
                    check.due("of", x.of(own, 4), 0);
                }
            }
            if (count > 0) {
                check.due("the last", Check.plan(Edge.threes(count), count - 1, "rest 1;"), 1);
            }
        }
    }

    @Says("NONE: no such one (fault() tells 0)")
    static void promise08_noSuchThreeForgetsTheFault() {
        OneEye x = Edge.threes(1);
        for (int t : new int[] {-1, 1, 4}) {
            faultIs(x, "see;", 1, 3);
            check.due("text(" + t + ")", Check.plan(x, t, "see see;"), -1);
            check.due("fault(0)", x.fault(0), 0);
            check.due("fault(1)", x.fault(1), -1);
        }
    }

    @Says("or a FAULT (it stays as it was)")
    static void promise08_faultLeavesThePlan() {
        OneEye x = Edge.threes(1);
        stepsAre(x, "see 1;see 2;see 3;", 3);
        x.minutes(1);
        faultIs(x, "see 7;see 8;see", 1, 15);
        check.due("STEPS", x.of(0, 4), 3);
        check.due("which comes next", x.of(0, 5), 1);
        x.minutes(2);
        check.due("knows(0, 3)", x.knows(0, 3), 2);
        check.due("knows(0, 7)", x.knows(0, 7), 0);
    }

    @Says("or a FAULT (it stays as it was)")
    static void promise08_faultLeavesWhatIsBeingDone() {
        OneEye x = Edge.threes(1);
        stepsAre(x, "rest 5;", 1);
        x.minutes(2);
        faultIs(x, "rest", 1, 4);
        check.due("the rest goes on", x.of(0, 6), 3);
        stepsAre(x, "feel eye 1;", 1);
        x.minutes(1);
        faultIs(x, "feel", 1, 4);
        check.due("the feeling goes on", x.of(0, 6), 1);
    }

    @Says("3 (at its KEYWORD) the 31st STEP")
    static void promise08_thirtyStepsCanBe() {
        OneEye x = Edge.threes(1);
        stepsAre(x, THIRTY, 30);
        check.due("of(0, 4)", x.of(0, 4), 30);
        x.minutes(30);
        check.due("the last one was seen in MINUTE 29", x.origin(0, 1, 1), 29);
        check.due("of(0, 5)", x.of(0, 5), 30);
    }

    @Says("3 (at its KEYWORD) the 31st STEP")
    static void promise08_the31stStepIsAFault() {
        OneEye x = Edge.threes(1);
        String[] steps = {"give eye 1;", "see 1;", "say 1 to 0;", "lie 1 to 0;", "rest 1;", "feel ear 1;"};
        for (String step : steps) {
            faultIs(x, THIRTY + step, 3, 180);
            faultIs(x, THIRTY + " \n " + step, 3, 183);
        }
        faultIs(x, "see 1;".repeat(66), 3, 180);
        check.due("of(0, 4)", x.of(0, 4), 0);
    }

    @Says("how many STEPS")
    static void promise08_all400BytesCanBeText() {
        OneEye x = Edge.threes(1);
        String text = "rest 0001    ;".repeat(28) + "  rest5;";
        check.due("length", text.length(), 400);
        stepsAre(x, text, 29);
        faultIs(x, text.substring(0, 399) + " ", 1, 400);
    }

    @Says("FAULTS, the first by its place")
    static void promise08_400BytesCanBe400Tokens() {
        OneEye x = Edge.threes(1);
        faultIs(x, ";".repeat(400), 1, 0);
        faultIs(x, "a1".repeat(200), 1, 0);
        faultIs(x, "see 1" + ";".repeat(395), 1, 6);
        faultIs(x, "1".repeat(400), 1, 0);
        faultIs(x, "x".repeat(400), 1, 0);
        faultIs(x, "see " + "1".repeat(396), 1, 4);
    }

    @Says("M: a MEMBER")
    static void promise08_giveNamesMembers0To2() {
        OneEye x = Edge.threes(1);
        stepsAre(x, "give eye 0;give ear 1;give mouth 2;", 3);
        faultIs(x, "give eye 3;", 2, 9);
        faultIs(x, "give ear 10;", 2, 9);
        faultIs(x, "give mouth 9999;", 2, 11);
    }

    @Says("F: a FACT")
    static void promise08_seeSayAndLieNameFacts0To9() {
        OneEye x = Edge.threes(1);
        stepsAre(x, "see 0;see 9;say 0 to 0;say 9 to 0;lie 0 to 0;lie 9 to 0;", 6);
        faultIs(x, "see 10;", 2, 4);
        faultIs(x, "say 10 to 0;", 2, 4);
        faultIs(x, "lie 10 to 0;", 2, 4);
        faultIs(x, "lie 9999 to 0;", 2, 4);
    }

    @Says("N after to: a THREE that there is by then (its own, too)")
    static void promise08_toNamesThreesThatAreThereByThen() {
        OneEye x = new OneEye();
        for (int count = 1; count <= 4; count++) {
            x.three(1, 0);
            for (int n = 0; n < count; n++) {
                stepsAre(x, "say 1 to " + n + ";lie 1 to " + n + ";", 2);
            }
            for (int n = count; n <= 5; n++) {
                faultIs(x, "say 1 to " + n + ";", 2, 9);
                faultIs(x, "lie 1 to " + n + ";", 2, 9);
            }
        }
        faultIs(x, "say 1 to 9999;", 2, 9);
        for (int t = 0; t < 4; t++) {
            check.due("its own", Check.plan(x, t, "say 1 to " + t + ";"), 1);
        }
    }

    @Says("of rest 1 .. 99")
    static void promise08_restIs1To99() {
        OneEye x = Edge.threes(1);
        stepsAre(x, "rest 1;rest 99;rest 0001;rest 0099;", 4);
        faultIs(x, "rest 0;", 2, 5);
        faultIs(x, "rest 0000;", 2, 5);
        faultIs(x, "rest 100;", 2, 5);
        faultIs(x, "rest 9999;", 2, 5);
    }

    @Says("S: a SPOT")
    static void promise08_feelNamesSpots0To8() {
        OneEye x = Edge.threes(1);
        stepsAre(x, "feel eye 0;feel ear 8;feel mouth 4;", 3);
        faultIs(x, "feel eye 9;", 2, 9);
        faultIs(x, "feel mouth 10;", 2, 11);
    }

    @Says("digits as many as stand together NUMBERS of 1 to 4 digits or none")
    static void promise08_numbersHave1To4Digits() {
        OneEye x = Edge.threes(1);
        stepsAre(x, "see 9;see 09;see 009;see 0009;", 4);
        faultIs(x, "see 00009;", 1, 4);
        faultIs(x, "see 0000000009;", 1, 4);
        faultIs(x, "see 4294967297;", 1, 4);
        x.minutes(1);
        check.due("knows(0, 9)", x.knows(0, 9), 2);
    }

    @Says("digits as many as stand together NUMBERS of 1 to 4 digits or none")
    static void promise08_leadingNoughtsCountNothing() {
        OneEye x = Edge.threes(1);
        stepsAre(x, "see 0007;rest 0012;", 2);
        x.minutes(2);
        check.due("knows(0, 7)", x.knows(0, 7), 2);
        check.due("of(0, 6)", x.of(0, 6), 11);
    }

    @Says("letters as many as stand together are KEYWORDS")
    static void promise08_digitsAndLettersPartWithoutBlanks() {
        OneEye x = Edge.threes(1);
        stepsAre(x, "see1;say1to0;lie2to0;rest3;give eye1;feel mouth8;", 6);
        faultIs(x, "giveeye1;", 1, 0);
        faultIs(x, "give eyeto1;", 1, 5);
        faultIs(x, "say 1 toto 0;", 1, 6);
    }

    @Says("Blanks (32, 10) between.")
    static void promise08_blanksMayStandAroundEachToken() {
        OneEye x = Edge.threes(1);
        stepsAre(x, " \n say \n 1 \n to \n 0 \n ; \n \n see \n 1 ; ", 2);
        faultIs(x, "s ee 1;", 1, 0);
        faultIs(x, "see 1 1;", 1, 6);
    }

    @Says("A PLAN that is told begins anew")
    static void promise08_planBeginsAnew() {
        OneEye x = Edge.threes(1);
        for (int i = 0; i < 3; i++) {
            stepsAre(x, "see 1;see 2;", 2);
            check.due("which comes next", x.of(0, 5), 0);
            x.minutes(1);
            check.due("which comes next", x.of(0, 5), 1);
            check.due("seen in", x.origin(0, 1, 1), i);
        }
    }

    @Says("what was handed over then goes on")
    static void promise08_handOverGoesOnUnderANewPlan() {
        OneEye x = new OneEye();
        x.three(9, 0);
        stepsAre(x, "give eye 1;give ear 1;", 2);
        x.minutes(8);
        stepsAre(x, "see 1;", 1);
        check.due("minutes left", x.of(0, 6), 1);
        check.due("handed over", x.where(0, 0), 3);
        x.minutes(1);
        check.due("it came to MEMBER 1", x.where(0, 0), 1);
        check.due("HANDED", x.of(0, 2), 1);
        check.due("the new PLAN has not begun", x.of(0, 5), 0);
        check.due("nothing seen", x.knows(1, 1), 0);
        x.minutes(1);
        check.due("the next minute it has", x.knows(1, 1), 2);
        check.due("the old PLAN is gone", x.where(0, 1), 0);
    }

    @Says("what was handed over then goes on")
    static void promise08_handOverGoesOnUnderAnEmptyPlan() {
        OneEye x = new OneEye();
        x.three(2, 0);
        stepsAre(x, "give mouth 2;", 1);
        x.minutes(1);
        stepsAre(x, "", 0);
        stepsAre(x, "rest 9;", 1);
        check.due("minutes left", x.of(0, 6), 1);
        x.minutes(1);
        check.due("it came to MEMBER 2", x.where(0, 2), 2);
        x.minutes(1);
        check.due("the rest began", x.of(0, 6), 8);
    }

    @Says("what was being felt for or rested for is over")
    static void promise08_restIsOverUnderANewPlan() {
        OneEye x = Edge.threes(1);
        stepsAre(x, "rest 99;", 1);
        x.minutes(1);
        stepsAre(x, "see 1;", 1);
        check.due("nothing is left", x.of(0, 6), 0);
        x.minutes(1);
        check.due("the new PLAN began at once", x.knows(0, 1), 2);
    }

    @Says("what was being felt for or rested for is over")
    static void promise08_feelingIsOverUnderANewPlan() {
        OneEye x = new OneEye();
        x.state(Draws.stateForSpot(4));
        x.three(1, 1000);
        stepsAre(x, "give mouth 1;feel mouth 4;", 2);
        x.minutes(2);
        check.due("it is felt for", x.of(0, 6), 1);
        stepsAre(x, "see 1;", 1);
        check.due("nothing is left", x.of(0, 6), 0);
        x.minutes(3);
        check.due("it lies there still", x.where(0, 2), 14);
        check.due("the new PLAN began", x.knows(0, 1), 2);
    }

    @Says("A PLAN that is told begins anew")
    static void promise08_planOfOneThreeLeavesTheOthers() {
        OneEye x = Edge.threes(4);
        for (int t = 0; t < 4; t++) {
            Check.plan(x, t, "rest 9;see 1;");
        }
        x.minutes(3);
        check.due("text(2)", Check.plan(x, 2, "rest 1;rest 1;rest 1;"), 3);
        for (int t = 0; t < 4; t++) {
            check.due("STEPS", x.of(t, 4), t == 2 ? 3 : 2);
            check.due("which comes next", x.of(t, 5), t == 2 ? 0 : 1);
            check.due("minutes left", x.of(t, 6), t == 2 ? 0 : 6);
        }
    }

    // ---- Promise 9

    @Says("NONE for another what.")
    static void promise09_anotherWhat() {
        OneEye x = Edge.threes(1);
        faultIs(x, "see 10;", 2, 4);
        for (int what : Edge.outside(0, 1)) {
            check.due("fault(" + what + ")", x.fault(what), -1);
        }
    }

    @Says("Of the latest text(): what 0 the FAULT (0 without one), 1 its place (NONE).")
    static void promise09_latestTextAlone() {
        OneEye x = Edge.threes(1);
        faultIs(x, "see 10;", 2, 4);
        faultIs(x, "give;", 1, 4);
        stepsAre(x, "see 1;", 1);
        faultIs(x, "give;", 1, 4);
        feedBlanks(x);
        x.end(3);
        x.minutes(1);
        check.due("no other call changes it", x.fault(0), 1);
        check.due("its place", x.fault(1), 4);
    }

    @Says("(the end: the text's length)")
    static void promise09_endIsAtTheTextsLength() {
        OneEye x = Edge.threes(1);
        String[] parts = {"say", " 1", " to", " 0"};
        String text = "";
        for (String part : parts) {
            text += part;
            faultIs(x, text, 1, text.length());
            faultIs(x, text + " \n  ", 1, text.length() + 4);
        }
        faultIs(x, "give eye", 1, 8);
        faultIs(x, "see 1;see", 1, 9);
        faultIs(x, "give" + " ".repeat(396), 1, 400);
    }

    @Says("1 what can't stand there")
    static void promise09_whatCantStandThere() {
        OneEye x = Edge.threes(1);
        faultIs(x, ";", 1, 0);
        faultIs(x, "  ;", 1, 2);
        faultIs(x, "see 1;;", 1, 6);
        faultIs(x, "1;", 1, 0);
        faultIs(x, "eye 1;", 1, 0);
        faultIs(x, "to 1;", 1, 0);
        faultIs(x, "see;", 1, 3);
        faultIs(x, "see eye;", 1, 4);
        faultIs(x, "give 1;", 1, 5);
        faultIs(x, "give to 1;", 1, 5);
        faultIs(x, "give feel 1;", 1, 5);
        faultIs(x, "give eye ear 1;", 1, 9);
        faultIs(x, "feel 1 eye;", 1, 5);
        faultIs(x, "say 1 0;", 1, 6);
        faultIs(x, "say 1 eye 0;", 1, 6);
        faultIs(x, "say 1 feel 0;", 1, 6);
        faultIs(x, "say to 0;", 1, 4);
        faultIs(x, "say 1 to eye;", 1, 9);
        faultIs(x, "see 1 see 2;", 1, 6);
        faultIs(x, "see 1 to 0;", 1, 6);
        faultIs(x, "rest;", 1, 4);
    }

    @Says("are KEYWORDS (give, see, say, lie, rest, feel, to, eye, ear, mouth) or none")
    static void promise09_wordsThatAreNearlyKeywords() {
        OneEye x = Edge.threes(1);
        for (String word : new String[] {"se", "sees", "seee", "see" + "e".repeat(300), "gives", "giv", "mouths",
            "resting", "SEE", "See", "seE", "x", "l", "feell"}) {
            faultIs(x, word + " 1;", 1, 0);
        }
        for (String thing : new String[] {"ey", "eyes", "ea", "ears", "mout", "mouths", "moutj", "Eye"}) {
            faultIs(x, "give " + thing + " 1;", 1, 5);
        }
        for (String to : new String[] {"t", "too", "tO"}) {
            faultIs(x, "say 1 " + to + " 0;", 1, 6);
        }
    }

    @Says("letters as many as stand together are KEYWORDS")
    static void promise09_signsNextToLettersAreNoLetters() {
        OneEye x = Edge.threes(1);
        for (char letter : new char[] {'a', 'z', 'A', 'Z'}) {
            faultIs(x, "see" + letter + "1;", 1, 0);
        }
        for (char sign : new char[] {'@', '[', '`', '{', '_', (char) 127, (char) 128, (char) 233, (char) 255}) {
            faultIs(x, "see" + sign + "1;", 1, 3);
        }
    }

    @Says("digits as many as stand together NUMBERS")
    static void promise09_signsNextToDigitsAreNoDigits() {
        OneEye x = Edge.threes(1);
        for (char sign : new char[] {'/', ':', '.', ',', '-', '+', (char) 178, (char) 185}) {
            faultIs(x, "rest 1" + sign + ";", 1, 6);
            faultIs(x, "rest " + sign + "1;", 1, 5);
        }
    }

    @Says("Blanks (32, 10) between.")
    static void promise09_otherBlanksAreNone() {
        OneEye x = Edge.threes(1);
        for (int sign : new int[] {0, 1, 8, 9, 11, 12, 13, 31, 33, 127, 133, 160}) {
            faultIs(x, "see" + (char) sign + "1;", 1, 3);
            faultIs(x, "see 1;" + (char) sign, 1, 6);
        }
    }

    @Says("2 (at the NUMBER) one beyond its bounds")
    static void promise09_beyondBoundsIsAtTheNumber() {
        OneEye x = Edge.threes(1);
        faultIs(x, "see  10;", 2, 5);
        faultIs(x, "see 1;rest\n0;", 2, 11);
        faultIs(x, "say 1 to   1;", 2, 11);
        faultIs(x, "see 0010;", 2, 4);
    }

    @Says("FAULTS, the first by its place")
    static void promise09_firstByItsPlace() {
        OneEye x = Edge.threes(1);
        faultIs(x, "see 10 see", 2, 4);
        faultIs(x, "say 10 to 9;", 2, 4);
        faultIs(x, "see x;see 10;", 1, 4);
        faultIs(x, "see 1;#;see 10;", 1, 6);
        faultIs(x, "rest 0", 2, 5);
        faultIs(x, "see 10;" + THIRTY + "see 1;", 2, 4);
        faultIs(x, THIRTY + "see 10;", 3, 180);
        faultIs(x, THIRTY + "see", 3, 180);
        faultIs(x, THIRTY + "see x;", 3, 180);
        faultIs(x, THIRTY.substring(0, 178) + "10;see 1;", 2, 178);
    }

    @Says("at one place the least")
    static void promise09_atOnePlaceTheLeast() {
        OneEye x = Edge.threes(1);
        // Five digits are none, and would be beyond the bounds; what begins the 31st may be none of STEPS'.
        faultIs(x, "see 12345;", 1, 4);
        faultIs(x, "rest 00000;", 1, 5);
        faultIs(x, "see 1 9999;", 1, 6);
        faultIs(x, THIRTY + "eye 1;", 1, 180);
        faultIs(x, THIRTY + "sees 1;", 1, 180);
        faultIs(x, THIRTY + "9999;", 1, 180);
        faultIs(x, THIRTY + ";", 1, 180);
    }
}
