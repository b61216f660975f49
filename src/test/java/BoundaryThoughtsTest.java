/** The document's boundary cases, promises 19 to 29: what is thought out, and what is told for it. */
public final class BoundaryThoughtsTest {
    private static final Check check = new Check();

    public static void main(String[] args) {
        Cases.run(BoundaryThoughtsTest.class, check);
    }

    private static void errandIs(OneEye x, String why, int minutes, int handOvers) {
        check.due(why + ", MINUTES", x.errand(0, 1, 1, 0), minutes);
        check.due(why + ", hand-overs", x.errand(0, 1, 1, 1), handOvers);
    }

    private static OneEye two(int hand, int drop) {
        OneEye x = new OneEye();
        x.three(hand, drop);
        x.three(1, 0);
        return x;
    }

    // ---- Promise 19

    @Says("An ERRAND of t for a FACT and u (another one)")
    static void promise19_uIsAnotherOne() {
        OneEye x = Edge.threes(4);
        for (int t = 0; t < 4; t++) {
            for (int u = 0; u < 4; u++) {
                check.due("MINUTES", x.errand(t, 0, u, 0), t == u ? -1 : 2);
                check.due("hand-overs", x.errand(t, 0, u, 1), t == u ? -1 : 0);
            }
        }
    }

    @Says("NONE if one can't be, or another what.")
    static void promise19_noSuchThree() {
        for (int count = 0; count <= 4; count++) {
            OneEye x = Edge.threes(count);
            for (int t : Edge.outside(0, count - 1)) {
                check.due("errand(" + t + ", 0, 0, 0)", x.errand(t, 0, 0, 0), -1);
                check.due("errand(0, 0, " + t + ", 0)", x.errand(0, 0, t, 0), -1);
                check.due("errand(0, 0, " + t + ", 1)", x.errand(0, 0, t, 1), -1);
            }
        }
    }

    @Says("NONE if one can't be, or another what.")
    static void promise19_noSuchFactOrWhat() {
        OneEye x = Edge.threes(2);
        for (int f : Edge.outside(0, 9)) {
            check.due("errand(0, " + f + ", 1, 0)", x.errand(0, f, 1, 0), -1);
        }
        for (int what : Edge.outside(0, 1)) {
            check.due("errand(0, 0, 1, " + what + ")", x.errand(0, 0, 1, what), -1);
        }
        check.due("FACT 0", x.errand(0, 0, 1, 0), 2);
        check.due("FACT 9", x.errand(0, 9, 1, 0), 2);
    }

    @Says("till u's MEMBER with its EAR KNOWS the FACT (0, if he does")
    static void promise19_nothingToDoIfHeKnows() {
        OneEye x = two(9, 0);
        Check.plan(x, 1, "see 1;");
        x.minutes(1);
        errandIs(x, "he saw it", 0, 0);
        Check.plan(x, 1, "give ear 2;");
        x.minutes(1);
        errandIs(x, "another one has the EAR", 2, 0);
        OneEye y = two(9, 0);
        Check.plan(y, 0, "see 1;lie 1 to 1;");
        y.minutes(2);
        errandIs(y, "he heard a lie", 0, 0);
    }

    @Says("TRUST not asked")
    static void promise19_trustIsNotAsked() {
        OneEye x = two(1, 0);
        for (int p = 0; p < 6; p++) {
            x.trust(p, 0, false);
        }
        errandIs(x, "see and say", 2, 0);
    }

    @Says("acts: give (HAND minutes), see (1), say to its own EAR (1), say to u's EAR (1; u's own things stay)")
    static void promise19_handOverTakesHandMinutes() {
        for (int hand = 1; hand <= 9; hand++) {
            OneEye x = two(hand, 0);
            errandIs(x, "see and say", 2, 0);
            Check.plan(x, 0, "give mouth 1;");
            x.minutes(9);
            errandIs(x, "give, see and say", hand + 2, 1);
            Check.plan(x, 0, "see 1;");
            x.minutes(1);
            errandIs(x, "give and say", hand + 1, 1);
            Check.plan(x, 0, "give mouth 0;");
            x.minutes(9);
            errandIs(x, "say", 1, 0);
        }
    }

    @Says("the least MINUTES, and (by itself) the fewest hand-overs")
    static void promise19_oneHandOverIsEnough() {
        OneEye x = two(9, 0);
        Check.plan(x, 0, "give eye 1;give mouth 2;");
        x.minutes(18);
        errandIs(x, "EYE, EAR and MOUTH with three", 11, 1);
        Check.plan(x, 0, "see 1;give eye 0;");
        x.minutes(10);
        errandIs(x, "one without a THING KNOWS it", 10, 1);
    }

    @Says("as if all hand-overs were done, none dropped")
    static void promise19_handOversAreAsIfDone() {
        OneEye x = two(9, 1000);
        Check.plan(x, 0, "give mouth 2;");
        x.minutes(1);
        check.due("handed over", x.where(0, 2), 3);
        errandIs(x, "as if MEMBER 2 had it", 11, 1);
        OneEye y = new OneEye();
        y.three(1, 0);
        y.three(9, 1000);
        Check.plan(y, 1, "see 1;give ear 2;");
        y.minutes(1);
        errandIs(y, "he KNOWS", 0, 0);
        y.minutes(1);
        errandIs(y, "as if MEMBER 2 had the EAR", 2, 0);
    }

    @Says("nothing lay on a SPOT (such things with MEMBER 0)")
    static void promise19_thingsOnASpotAreMember0s() {
        for (int spot = 0; spot < 9; spot++) {
            OneEye x = two(1, 1000);
            x.state(Draws.stateForSpot(spot));
            Check.plan(x, 0, "give mouth 2;");
            x.minutes(1);
            check.due("on a SPOT", x.where(0, 2), 10 + spot);
            errandIs(x, "as if MEMBER 0 had it", 2, 0);
        }
    }

    // ---- Promise 20

    @Says("TALK of two unlike THREES about a FACT; NONE.")
    static void promise20_unlikeThreesThatAreThere() {
        OneEye x = Edge.threes(4);
        for (int t = 0; t < 4; t++) {
            Check.plan(x, t, "see 0;see 9;");
        }
        x.minutes(2);
        for (int t = 0; t < 4; t++) {
            for (int u = 0; u < 4; u++) {
                check.due("talk(" + t + ", " + u + ", 0)", x.talk(t, u, 0) == -1, t == u);
            }
        }
        for (int t : Edge.outside(0, 3)) {
            check.due("talk(" + t + ", 0, 0)", x.talk(t, 0, 0), -1);
            check.due("talk(0, " + t + ", 0)", x.talk(0, t, 0), -1);
        }
        OneEye y = Edge.threes(1);
        Check.plan(y, 0, "see 0;");
        y.minutes(1);
        check.due("THREE 1 is not there", y.talk(0, 1, 0), -1);
        check.due("THREE 1 is not there", y.talk(1, 0, 0), -1);
    }

    @Says("TALK of two unlike THREES about a FACT; NONE.")
    static void promise20_noSuchFact() {
        OneEye x = Edge.threes(2);
        Check.plan(x, 0, "see 0;see 9;");
        x.minutes(2);
        for (int f : Edge.outside(0, 9)) {
            check.due("talk(0, 1, " + f + ")", x.talk(0, 1, f), -1);
        }
        check.due("FACT 0", x.talk(0, 1, 0), 9);
        check.due("FACT 9", x.talk(0, 1, 9), 9);
    }

    @Says("NONE if nobody does")
    static void promise20_nobodyKnows() {
        OneEye x = Edge.threes(3);
        check.due("nobody", x.talk(0, 1, 1), -1);
        Check.plan(x, 2, "see 1;");
        x.minutes(1);
        check.due("nobody of the six", x.talk(0, 1, 1), -1);
        check.due("one of the six", x.talk(0, 2, 1), 9);
        check.due("one of the six", x.talk(2, 1, 1), 9);
    }

    @Says("the fewest acts (a hand-over in one of both; who has a MOUTH and KNOWS it says it to one who has an EAR,"
        + " of either) by which all six KNOW")
    static void promise20_allSixKnowIs0() {
        OneEye x = Edge.threes(2);
        String all = "see 1;give eye 1;see 1;give eye 2;see 1;";
        Check.plan(x, 0, all);
        Check.plan(x, 1, all);
        x.minutes(4);
        // The two without it have no EAR: each needs a hand-over and a saying.
        check.due("four KNOW", x.talk(0, 1, 1), 4);
        x.minutes(1);
        check.due("six KNOW", x.talk(0, 1, 1), 0);
        check.due("not of another FACT", x.talk(0, 1, 2), -1);
    }

    @Says("who has a MOUTH and KNOWS it says it to one who has an EAR, of either")
    static void promise20_oneSayingIsEnough() {
        OneEye x = Edge.threes(2);
        Check.plan(x, 0, "see 1;give eye 1;see 1;give eye 2;see 1;");
        Check.plan(x, 1, "see 1;give eye 1;see 1;give ear 2;");
        x.minutes(5);
        check.due("the sixth has the EAR", x.talk(0, 1, 1), 1);
        Check.plan(x, 1, "give mouth 2;");
        x.minutes(1);
        check.due("THREE 0 says it", x.talk(0, 1, 1), 1);
        Check.plan(x, 1, "give ear 0;");
        x.minutes(1);
        check.due("the EAR goes over first", x.talk(0, 1, 1), 2);
    }

    @Says("a hand-over in one of both")
    static void promise20_mouthGoesToTheOneWhoKnows() {
        // All things with one MEMBER of each; one of the six KNOWS it: five must hear it, an EAR goes over for all of
        // them but the two who have one; and the MOUTH goes over first, if it is not his.
        for (int things = 0; things < 9; things++) {
            for (int who = 0; who < 6; who++) {
                OneEye x = Edge.threes(2);
                int[] has = {things / 3, things % 3};
                for (int t = 0; t < 2; t++) {
                    String see = who / 3 == t ? "give eye " + who % 3 + ";see 1;" : "";
                    Check.plan(x, t, see + "give ear " + has[t] + ";give mouth " + has[t] + ";");
                }
                x.minutes(9);
                boolean his = has[who / 3] == who % 3;
                check.due("things " + things + ", who " + who, x.talk(0, 1, 1), 9);
                check.due("told the other way round", x.talk(1, 0, 1), 9);
                check.due("the MOUTH is his", x.where(who / 3, 2) == who % 3, his);
            }
        }
    }

    @Says("(Things as in ERRANDS.)")
    static void promise20_handOversAndSpotsAsInErrands() {
        String all = "see 1;give eye 1;see 1;";
        OneEye x = two(9, 0);
        Check.plan(x, 0, "see 1;give eye 1;see 1;give eye 2;see 1;");
        Check.plan(x, 1, all + "give mouth 1;");
        x.minutes(30);
        check.due("five KNOW", x.talk(0, 1, 1), 2);
        OneEye y = new OneEye();
        y.three(1, 0);
        y.three(9, 1000);
        Check.plan(y, 0, "see 1;give eye 1;see 1;give eye 2;see 1;");
        Check.plan(y, 1, "give ear 2;");
        y.minutes(5);
        check.due("the EAR is handed over", y.where(1, 1), 3);
        // 5 hears it first, then 3 and 4, to whom the EAR goes over.
        check.due("as if MEMBER 2 had it", y.talk(0, 1, 1), 5);
        y.minutes(4);
        check.due("the EAR fell", y.where(1, 1) >= 10, true);
        check.due("as if MEMBER 0 had it", y.talk(0, 1, 1), 5);
        Check.plan(y, 1, "see 1;");
        y.minutes(1);
        check.due("MEMBER 0, who KNOWS it", y.talk(0, 1, 1), 4);
    }

    // ---- Promise 21

    @Says("DANGER at a PLACE for a MEMBER with a THING: true; false if one can't be.")
    static void promise21_whatCantBe() {
        OneEye x = new OneEye();
        for (int place : Edge.outside(0, 11)) {
            check.due("PLACE " + place, x.danger(place, 0, 0, 1), false);
        }
        for (int member : Edge.outside(0, 2)) {
            check.due("MEMBER " + member, x.danger(0, member, 0, 1), false);
        }
        for (int thing : Edge.outside(0, 2)) {
            check.due("THING " + thing, x.danger(0, 0, thing, 1), false);
        }
        for (int v : Edge.outside(0, 9)) {
            check.due("DANGER " + v, x.danger(0, 0, 0, v), false);
        }
        for (int i = 0; i < 12; i++) {
            check.due("who", x.way(12, 0, 10 + i), 0);
        }
    }

    @Says("DANGER of each for MEMBER and THING 0 .. 9 (0 at first)")
    static void promise21_eachDangerIsToldByItself() {
        int[] weights = {9, 3, 1};
        for (int place = 0; place < 12; place++) {
            for (int thing = 0; thing < 3; thing++) {
                OneEye x = new OneEye();
                check.due("DANGER 9", x.danger(place, 0, thing, 9), true);
                for (int i = 0; i < 12; i++) {
                    check.due("who at " + i, x.way(12, 0, 10 + i), i == place ? weights[thing] : 0);
                }
                x.danger(place, 1, thing, 8);
                check.due("who", x.way(12, 0, 10 + place), 2 * weights[thing]);
                x.danger(place, 2, thing, 9);
                check.due("how much", x.way(12, 0, 0), 8);
                check.due("who", x.way(12, 0, 10 + place), weights[thing]);
                check.due("DANGER 0", x.danger(place, 0, thing, 0), true);
                check.due("how much", x.way(12, 0, 0), 0);
            }
        }
    }

    @Says("true; false if one can't be.")
    static void promise21_refusedChangesNothing() {
        Twins.unchanged(check, Twins::busy, x -> check.due("PLACE 12", x.danger(12, 0, 0, 5), false));
        Twins.unchanged(check, Twins::busy, x -> check.due("MEMBER 3", x.danger(0, 3, 0, 5), false));
        Twins.unchanged(check, Twins::busy, x -> check.due("THING -1", x.danger(1, 0, -1, 5), false));
        Twins.unchanged(check, Twins::busy, x -> check.due("DANGER 10", x.danger(0, 0, 0, 10), false));
    }

    // ---- Promise 22

    @Says("A WAY of n (1 .. 12) PLACES")
    static void promise22_lessThan1OrMoreThan12PlacesCantBe() {
        OneEye x = new OneEye();
        for (int n : Edge.outside(1, 12)) {
            check.due("way(" + n + ", 0, 0)", x.way(n, 0, 0), -1);
            check.due("way(" + n + ", 0, 10)", x.way(n, 0, 10), -1);
        }
    }

    @Says("TOLL (0 .. 9)")
    static void promise22_tollBelow0OrAbove9CantBe() {
        OneEye x = new OneEye();
        for (int toll : Edge.outside(0, 9)) {
            check.due("way(1, " + toll + ", 0)", x.way(1, toll, 0), -1);
            check.due("way(12, " + toll + ", 21)", x.way(12, toll, 21), -1);
        }
    }

    @Says("NONE if one can't be, or another what.")
    static void promise22_anotherWhat() {
        OneEye x = new OneEye();
        for (int n = 1; n <= 12; n++) {
            for (int what : Edge.outside(10, 9 + n)) {
                check.due("way(" + n + ", 0, " + what + ")", x.way(n, 0, what), -1);
            }
            for (int what : new int[] {-1, 1, 2, 9, 10 + n, 22}) {
                check.due("way(" + n + ", 0, " + what + ")", x.way(n, 0, what), -1);
            }
            check.due("the last PLACE", x.way(n, 0, 9 + n), 0);
            check.due("how much", x.way(n, 0, 0), 0);
        }
    }

    @Says("that with the least DANGERS added")
    static void promise22_mostDangerOnTheLongestWay() {
        OneEye x = new OneEye();
        for (int i = 0; i < 108; i++) {
            x.danger(i / 9, i / 3 % 3, i % 3, 9);
        }
        for (int n = 1; n <= 12; n++) {
            check.due("way(" + n + ", 9, 0)", x.way(n, 9, 0), 27 * n);
            check.due("way(" + n + ", 0, 0)", x.way(n, 0, 0), 27 * n);
        }
        check.due("the first way", x.way(12, 0, 21), 0);
    }

    @Says("TOLL (0 .. 9) for each THING that is with another one than at the PLACE ahead")
    static void promise22_tollForEachThingThatChanges() {
        OneEye x = new OneEye();
        // At PLACE 0 MEMBER 0 alone is safe, at PLACE 1 MEMBER 1.
        for (int thing = 0; thing < 3; thing++) {
            for (int place = 0; place < 2; place++) {
                for (int m = 0; m < 3; m++) {
                    x.danger(place, m, thing, m == place ? 0 : 9);
                }
            }
            int changed = thing + 1;
            for (int toll = 0; toll <= 9; toll++) {
                check.due("TOLL " + toll, x.way(2, toll, 0), toll * changed);
            }
        }
        check.due("no TOLL at the first PLACE", x.way(1, 9, 0), 0);
        check.due("all with 0", x.way(2, 8, 10), 0);
        check.due("all with 1", x.way(2, 8, 11), 13);
    }

    @Says("of several the first (PLACE by PLACE, by MEMBER of the EYE, EAR, MOUTH)")
    static void promise22_ofSeveralTheFirst() {
        OneEye x = new OneEye();
        // To stay costs as much as to go: stay with MEMBER 0, go from 0 to 1, or have 1 from the first.
        x.danger(0, 1, 0, 4);
        x.danger(0, 2, 0, 9);
        x.danger(1, 0, 0, 4);
        x.danger(1, 2, 0, 9);
        check.due("how much", x.way(2, 4, 0), 4);
        check.due("PLACE 0: MEMBER 0", x.way(2, 4, 10), 0);
        check.due("PLACE 1: MEMBER 0", x.way(2, 4, 11), 0);
        check.due("to go is less", x.way(2, 3, 0), 3);
        check.due("PLACE 1: MEMBER 1", x.way(2, 3, 11), 9);
        check.due("to stay is less", x.way(2, 5, 0), 4);
        check.due("PLACE 1: MEMBER 0", x.way(2, 5, 11), 0);
    }

    @Says("of several the first (PLACE by PLACE, by MEMBER of the EYE, EAR, MOUTH)")
    static void promise22_firstPlaceCountsMost() {
        OneEye x = new OneEye();
        // From MEMBER 0 over to 2, or from 1 to 0: the same sum, but the first has a lesser MEMBER at PLACE 0.
        x.danger(0, 2, 1, 9);
        x.danger(1, 0, 1, 3);
        x.danger(1, 1, 1, 9);
        x.danger(0, 1, 1, 0);
        x.danger(0, 0, 1, 3);
        x.danger(1, 2, 1, 0);
        // 0,0: 6; 0,2: 3 + toll; 1,0: 3 + toll; 1,2: toll.
        check.due("TOLL 6", x.way(2, 6, 0), 6);
        check.due("PLACE 0", x.way(2, 6, 10), 0);
        check.due("PLACE 1", x.way(2, 6, 11), 0);
        check.due("TOLL 5", x.way(2, 5, 0), 5);
        check.due("PLACE 0", x.way(2, 5, 10), 3);
        check.due("PLACE 1", x.way(2, 5, 11), 6);
    }

    @Says("(9 times the EYE's MEMBER, 3 times the EAR's, and the MOUTH's)")
    static void promise22_eachOf27CanBeTold() {
        for (int who = 0; who < 27; who++) {
            OneEye x = new OneEye();
            int[] members = {who / 9, who / 3 % 3, who % 3};
            for (int i = 0; i < 9; i++) {
                x.danger(11, i / 3, i % 3, members[i % 3] == i / 3 ? 0 : 1);
            }
            check.due("who at PLACE 11", x.way(12, 9, 21), who);
            check.due("who at PLACE 0", x.way(12, 9, 10), who);
        }
    }

    // ---- Promise 23

    @Says("A SPOT's WEIGHT and TIME: true; false if one can't be.")
    static void promise23_whatCantBe() {
        OneEye x = new OneEye();
        for (int s : Edge.outside(0, 8)) {
            check.due("SPOT " + s, x.spot(s, 9, 1), false);
        }
        for (int weight : Edge.outside(0, 99)) {
            check.due("WEIGHT " + weight, x.spot(0, weight, 1), false);
        }
        for (int time : Edge.outside(1, 9)) {
            check.due("TIME " + time, x.spot(0, 9, time), false);
        }
        check.due("felt()", x.felt(), 0);
    }

    @Says("SPOTS have WEIGHTS 0 .. 99 and TIMES 1 .. 9 (0, 1 at first)")
    static void promise23_leastAndMostOfEachSpot() {
        for (int s = 0; s < 9; s++) {
            OneEye x = new OneEye();
            check.due("most", x.spot(s, 99, 9), true);
            check.due("felt()", x.felt(), 891);
            check.due("TIME 1", x.spot(s, 99, 1), true);
            check.due("felt()", x.felt(), 99);
            check.due("least", x.spot(s, 0, 1), true);
            check.due("felt()", x.felt(), 0);
        }
    }

    @Says("A SPOT's WEIGHT and TIME: true; false if one can't be.")
    static void promise23_refusedChangesNothing() {
        Twins.unchanged(check, Twins::busy, x -> check.due("SPOT 9", x.spot(9, 5, 5), false));
        Twins.unchanged(check, Twins::busy, x -> check.due("WEIGHT 100", x.spot(0, 100, 5), false));
        Twins.unchanged(check, Twins::busy, x -> check.due("TIME 0", x.spot(0, 50, 0), false));
        Twins.unchanged(check, Twins::busy, x -> check.due("TIME 10", x.spot(0, 50, 10), false));
    }

    // ---- Promise 24

    @Says("(0, 1 at first)")
    static void promise24_nothingIsToldYet() {
        OneEye x = new OneEye();
        check.due("felt()", x.felt(), 0);
        // Each of the other SPOTS takes a time of 1, so it is felt behind this one.
        x.spot(3, 1, 1);
        check.due("felt()", x.felt(), 1);
    }

    @Says("two feel, each one SPOT behind another one, each SPOT by one of them")
    static void promise24_allAtTheirMost() {
        OneEye x = new OneEye();
        int[] due = {1, 2, 4, 6, 9, 12, 16, 20, 25};
        for (int s = 0; s < 9; s++) {
            x.spot(s, 99, 9);
            check.due(s + 1 + " SPOTS", x.felt(), 891 * due[s]);
        }
    }

    @Says("WEIGHT times the time till it was felt, added over all SPOTS, is least")
    static void promise24_weightlessSpotsComeLast() {
        OneEye x = new OneEye();
        for (int s = 0; s < 9; s++) {
            x.spot(s, s < 7 ? 0 : 99, s < 7 ? 9 : 1);
        }
        check.due("felt()", x.felt(), 198);
    }

    @Says("WEIGHT times the time till it was felt, added over all SPOTS, is least: how much.")
    static void promise24_evenShareIsLeast() {
        OneEye x = new OneEye();
        x.spot(0, 1, 1);
        x.spot(1, 1, 1);
        x.spot(2, 2, 2);
        // 1 and 1 by the one (1 + 2), 2 by the other one (4); each by turns would come to 8.
        check.due("felt()", x.felt(), 7);
        OneEye y = new OneEye();
        y.spot(8, 5, 9);
        y.spot(7, 5, 1);
        y.spot(6, 5, 2);
        // 1 and 2 by the one: 5 + 15; 9 by the other one: 45. Or 1 and 9, and 2: 5 + 50 + 10.
        check.due("felt()", y.felt(), 65);
        y.spot(5, 5, 3);
        // 1, 3 and 2, 9: 5 + 20 + 10 + 55 = 90; 1, 2, 3 and 9: 5 + 15 + 30 + 45 = 95; 1, 9 and 2, 3: 5 + 50 + 10 + 25.
        check.due("felt()", y.felt(), 90);
    }

    @Says("each one SPOT behind another one, each SPOT by one of them")
    static void promise24_heavyAndShortComeFirst() {
        OneEye x = new OneEye();
        x.spot(0, 1, 1);
        x.spot(1, 50, 1);
        x.spot(2, 99, 9);
        // 50 in 1, then 1 in 1, by the one: 50 + 2; 99 in 9 by the other one.
        check.due("felt()", x.felt(), 943);
        OneEye y = new OneEye();
        y.spot(8, 90, 9);
        y.spot(7, 9, 1);
        y.spot(6, 40, 5);
        // 90 in 9 and 9 in 1 apart, 40 in 5 behind the short one: 810 + 9 + 240.
        check.due("felt()", y.felt(), 1059);
        y.spot(5, 1, 9);
        // 1 in 9 behind 6 or 9 gone: behind the shorter.
        check.due("felt()", y.felt(), 1059 + 15);
    }

    @Says("WEIGHT times the time till it was felt, added over all SPOTS, is least: how much.")
    static void promise24_allNineUnlike() {
        int[][] spots = {{99, 1}, {1, 9}, {50, 5}, {10, 1}, {70, 8}, {99, 9}, {3, 1}, {20, 4}, {98, 9}};
        // Each SPOT is told in each place once: which number it has is all the same.
        for (int turn = 0; turn < 9; turn++) {
            OneEye x = new OneEye();
            for (int s = 0; s < 9; s++) {
                x.spot((s + turn) % 9, spots[s][0], spots[s][1]);
            }
            check.due("felt(), turned by " + turn, x.felt(), 4545);
        }
    }

    // ---- Promise 25

    @Says("LIARS, as a set.")
    static void promise25_nothingSaid() {
        OneEye x = new OneEye();
        check.due("nobody there", x.liars(), 0);
        OneEye y = Edge.threes(4);
        check.due("nothing said", y.liars(), 0);
    }

    @Says("without whose sayings no FACT was said both so and not so")
    static void promise25_allAgree() {
        OneEye x = Edge.threes(2);
        x.fact(2, true);
        Check.plan(x, 0, "see 1;see 2;say 1 to 1;say 2 to 1;");
        Check.plan(x, 1, "see 1;see 2;rest 2;say 1 to 0;say 2 to 0;");
        x.minutes(6);
        check.due("two FACTS, each said one way", x.liars(), 0);
        check.due("lines", x.look(2), 4);
    }

    @Says("without whose sayings no FACT was said both so and not so")
    static void promise25_oneWhoSaidBoth() {
        for (int p = 0; p < 12; p++) {
            for (int f = 0; f < 10; f++) {
                OneEye x = Edge.threes(4);
                String sayBoth = "say " + f + " to 0;lie " + f + " to 0;";
                Check.plan(x, p / 3, "give eye " + p % 3 + ";see " + f + ";give mouth " + p % 3 + ";" + sayBoth);
                x.minutes(5);
                check.due("person " + p, x.liars(), 1 << p);
            }
        }
    }

    @Says("without whose sayings no FACT was said both so and not so")
    static void promise25_factThatChangedMakesALiarToo() {
        OneEye x = Edge.threes(2);
        Check.plan(x, 0, "see 1;say 1 to 1;see 1;say 1 to 1;");
        x.minutes(2);
        x.fact(1, true);
        check.due("said once", x.liars(), 0);
        x.minutes(2);
        check.due("said both ways, though it was so each time", x.liars(), 1);
    }

    @Says("that with the fewest, then the least (person p counts 2 to the p)")
    static void promise25_ofTwoTheLeast() {
        for (int liar = 0; liar < 4; liar++) {
            OneEye x = Edge.threes(4);
            for (int t = 2; t < 4; t++) {
                Check.plan(x, t, "see 1;" + (t == liar ? "lie" : "say") + " 1 to 0;");
            }
            x.minutes(2);
            check.due("6 or 9", x.liars(), liar < 2 ? 0 : 1 << 6);
        }
    }

    @Says("that with the fewest, then the least (person p counts 2 to the p)")
    static void promise25_fewestAheadOfTheLeast() {
        OneEye x = Edge.threes(4);
        for (int t = 0; t < 4; t++) {
            Check.plan(x, t, "see 1;" + (t == 3 ? "lie" : "say") + " 1 to 0;");
        }
        x.trust(0, 3, false);
        x.minutes(2);
        check.due("9 against 0, 3, 6", x.liars(), 1 << 9);
    }

    @Says("of all sets of sayers of THE BOOK")
    static void promise25_linesThatAreGoneCountNoMore() {
        for (String first : new String[] {"say", "lie"}) {
            OneEye x = Edge.threes(2);
            Check.plan(x, 0, "see 0;" + first + " 0 to 1;");
            x.minutes(2);
            x.image(true);
            Check.plan(x, 0, first.equals("say") ? "lie 0 to 1;" : "say 0 to 1;");
            x.minutes(1);
            check.due("said both", x.liars(), 1);
            x.image(false);
            check.due("the second line is gone", x.liars(), 0);
        }
    }

    @Says("of all sets of sayers of THE BOOK")
    static void promise25_allTwelveSay() {
        OneEye x = Edge.threes(4);
        // The MEMBERS of THREES 0 and 1 say what is, those of 2 and 3 lie: six against six.
        for (int m = 0; m < 3; m++) {
            for (int t = 0; t < 4; t++) {
                String say = (t < 2 ? "say" : "lie") + " 1 to " + t + ";";
                x.trust(3 * t, t, false);
                Check.plan(x, t, "give eye " + m + ";see 1;give mouth " + m + ";" + say);
            }
            x.minutes(4);
        }
        check.due("lines", x.look(2), 12);
        check.due("six against six", x.liars(), 63);
        Check.plan(x, 0, "lie 1 to 0;");
        x.minutes(1);
        check.due("2 said both", x.liars(), 63);
        Check.plan(x, 3, "say 1 to 3;");
        x.minutes(1);
        check.due("11 said both, too", x.liars(), 63 + (1 << 11));
    }

    // ---- Promise 26

    @Says("WATCHES (9 at most) of so many minutes (1 .. 99)")
    static void promise26_lessThan1OrMoreThan99CantBe() {
        OneEye x = new OneEye();
        for (int minutes : Edge.outside(1, 99)) {
            check.due("watch(" + minutes + ")", x.watch(minutes), -1);
        }
        check.due("WATCHES", x.look(3), 0);
        check.due("watch(1)", x.watch(1), 0);
        check.due("watch(99)", x.watch(99), 1);
        check.due("WATCHES", x.look(3), 2);
    }

    @Says("A WATCH comes: its number; NONE if one can't be, or there are nine.")
    static void promise26_theTenthIsRefused() {
        OneEye x = new OneEye();
        for (int i = 0; i < 9; i++) {
            check.due("watch", x.watch(99), i);
        }
        check.due("the tenth", x.watch(99), -1);
        check.due("WATCHES", x.look(3), 9);
        check.due("how much", x.watches(0), 0);
    }

    @Says("A WATCH comes: its number; NONE if one can't be, or there are nine.")
    static void promise26_refusedChangesNothing() {
        Twins.unchanged(check, Twins::busy, x -> check.due("watch(0)", x.watch(0), -1));
        Twins.unchanged(check, Twins::busy, x -> check.due("watch(100)", x.watch(100), -1));
        Twins.Lead full = x -> {
            Twins.busy(x);
            for (int i = 0; i < 7; i++) {
                x.watch(9 + i);
            }
        };
        Twins.unchanged(check, full, x -> check.due("the tenth", x.watch(5), -1));
    }

    // ---- Promise 27

    @Says("what 0 the most less the least (0 without)")
    static void promise27_withoutWatches() {
        OneEye x = new OneEye();
        check.due("watches(0)", x.watches(0), 0);
        for (int i = 0; i < 9; i++) {
            check.due("watches(1" + i + ")", x.watches(10 + i), -1);
        }
    }

    @Says("NONE for another what (none such).")
    static void promise27_anotherWhat() {
        OneEye x = new OneEye();
        for (int count = 0; count <= 9; count++) {
            for (int what : Edge.outside(10, 9 + count)) {
                check.due("watches(" + what + ")", x.watches(what), -1);
            }
            for (int what : new int[] {-1, 1, 2, 9, 10 + count, 19}) {
                check.due("watches(" + what + ")", x.watches(what), -1);
            }
            for (int i = 0; i < count; i++) {
                check.due("WATCH " + i + " is there", x.watches(10 + i) >= 0, true);
            }
            x.watch(5);
        }
    }

    @Says("of several ways the first (WATCH by WATCH)")
    static void promise27_watchesThatAreAlike() {
        String[] due = {"0", "01", "012", "0012", "00112", "001122", "0001122", "00011122", "000111222"};
        OneEye x = new OneEye();
        for (int count = 1; count <= 9; count++) {
            x.watch(7);
            check.due("how much", x.watches(0), count % 3 == 0 ? 0 : 7);
            for (int i = 0; i < count; i++) {
                check.due("WATCH " + i + " of " + count, x.watches(10 + i), due[count - 1].charAt(i) - '0');
            }
        }
    }

    @Says("given to the three MEMBERS so that the most less the least that one has is least: how much")
    static void promise27_fewerWatchesThanMembers() {
        OneEye x = new OneEye();
        x.watch(99);
        check.due("one: the others have none", x.watches(0), 99);
        x.watch(1);
        check.due("two: one has none", x.watches(0), 99);
        check.due("MEMBER of WATCH 0", x.watches(10), 0);
        check.due("MEMBER of WATCH 1: all the same, so the first way", x.watches(11), 1);
        x.watch(99);
        check.due("three", x.watches(0), 98);
        check.due("MEMBER of WATCH 2", x.watches(12), 2);
    }

    @Says("given to the three MEMBERS so that the most less the least that one has is least: how much")
    static void promise27_mostAndLeastCountNotTheMiddle() {
        OneEye x = new OneEye();
        x.watch(6);
        x.watch(6);
        x.watch(4);
        x.watch(1);
        // 6, 6, 5.
        check.due("how much", x.watches(0), 1);
        check.due("WATCH 3", x.watches(13), 2);
        x.watch(1);
        check.due("6, 6, 6", x.watches(0), 0);
        check.due("WATCH 4", x.watches(14), 2);
    }

    @Says("of several ways the first (WATCH by WATCH)")
    static void promise27_ofSeveralTheFirst() {
        OneEye x = new OneEye();
        x.watch(1);
        x.watch(1);
        x.watch(2);
        x.watch(2);
        int[] due = {0, 0, 1, 2};
        for (int i = 0; i < 4; i++) {
            check.due("WATCH " + i, x.watches(10 + i), due[i]);
        }
        x.watch(2);
        // 2 + 1 + .. come to 8: 3, 3, 2 at best; the first way parts 1 and 1.
        check.due("how much", x.watches(0), 1);
        int[] five = {0, 1, 0, 1, 2};
        for (int i = 0; i < 5; i++) {
            check.due("WATCH " + i + " of five", x.watches(10 + i), five[i]);
        }
    }

    // ---- Promise 28

    @Says("A THREE would LEND its THING x for a THING y, or not: true; false if one can't be (x is y).")
    static void promise28_xIsYCantBe() {
        OneEye x = Edge.threes(2);
        for (int thing = 0; thing < 3; thing++) {
            check.due("would", x.lends(0, thing, thing, true), false);
            check.due("would", x.lends(1, thing, thing, true), false);
            check.due("would not", x.lends(0, thing, thing, false), false);
        }
        check.due("ring()", x.ring(), -1);
    }

    @Says("true; false if one can't be (x is y).")
    static void promise28_noSuchThreeOrThing() {
        for (int count = 0; count <= 4; count++) {
            OneEye x = Edge.threes(count);
            for (int t : Edge.outside(0, count - 1)) {
                check.due("THREE " + t, x.lends(t, 0, 1, true), false);
            }
        }
        OneEye x = Edge.threes(4);
        for (int thing : Edge.outside(0, 2)) {
            check.due("THING x " + thing, x.lends(3, thing, 1, true), false);
            check.due("THING y " + thing, x.lends(3, 1, thing, true), false);
        }
    }

    @Says("a THREE would LEND a THING for another sort of THING (or not; not at first)")
    static void promise28_eachPairIsToldByItself() {
        for (int x = 0; x < 3; x++) {
            for (int y = 0; y < 3; y++) {
                if (x != y) {
                    pairIsToldByItself(x, y);
                }
            }
        }
    }

    private static void pairIsToldByItself(int x, int y) {
        OneEye eye = Edge.threes(2);
        check.due("true", eye.lends(0, x, y, true), true);
        for (int v = 0; v < 3; v++) {
            for (int w = 0; w < 3; w++) {
                if (v != w) {
                    eye.lends(1, v, w, true);
                    check.due(x + " for " + y + ", " + v + " for " + w, eye.ring(), v == y && w == x ? 3 : -1);
                    eye.lends(1, v, w, false);
                }
            }
        }
        eye.lends(1, y, x, true);
        check.due("a ring", eye.ring(), 3);
        check.due("would not", eye.lends(0, x, y, false), true);
        check.due("no ring", eye.ring(), -1);
    }

    @Says("true; false if one can't be (x is y).")
    static void promise28_refusedChangesNothing() {
        Twins.unchanged(check, Twins::busy, x -> check.due("x is y", x.lends(0, 1, 1, true), false));
        Twins.unchanged(check, Twins::busy, x -> check.due("THREE 3", x.lends(3, 0, 1, false), false));
        Twins.unchanged(check, Twins::busy, x -> check.due("THING 3", x.lends(0, 0, 3, false), false));
        Twins.unchanged(check, Twins::busy, x -> check.due("THING -1", x.lends(0, -1, 1, true), false));
    }

    // ---- Promise 29

    @Says("RING, as a set; NONE.")
    static void promise29_noneAtFirst() {
        for (int count = 0; count <= 4; count++) {
            check.due(count + " THREES", Edge.threes(count).ring(), -1);
        }
    }

    @Says("the fewest THREES (2 or more) in some order")
    static void promise29_oneAloneIsNoRing() {
        OneEye x = Edge.threes(4);
        for (int t = 0; t < 4; t += 3) {
            for (int pair = 0; pair < 9; pair++) {
                x.lends(t, pair / 3, pair % 3, true);
            }
            check.due("THREE " + t, x.ring(), t == 0 ? -1 : 9);
        }
        x.lends(3, 0, 1, false);
        check.due("others are left", x.ring(), 9);
        OneEye y = Edge.threes(1);
        for (int pair = 0; pair < 9; pair++) {
            y.lends(0, pair / 3, pair % 3, true);
        }
        check.due("alone", y.ring(), -1);
    }

    @Says("each of which lends a THING to the next, the last one to the first, and gets of the one ahead a THING"
        + " for which it would LEND its own")
    static void promise29_threeInEitherOrder() {
        for (int turn = 0; turn < 2; turn++) {
            OneEye x = Edge.threes(4);
            // Each lends its own THING for that of the one ahead, who is 3, 1 or 2 in one turn, 3, 2, 1 in the other.
            int[] order = turn == 0 ? new int[] {1, 2, 3} : new int[] {3, 2, 1};
            for (int i = 0; i < 3; i++) {
                check.due("not closed yet", x.ring(), -1);
                x.lends(order[i], i, (i + 2) % 3, true);
            }
            check.due("three", x.ring(), 14);
        }
    }

    @Says("gets of the one ahead a THING for which it would LEND its own")
    static void promise29_twoWhoWouldLendAlikeAreNoRing() {
        OneEye x = Edge.threes(4);
        for (int t = 0; t < 4; t++) {
            x.lends(t, 0, 1, true);
        }
        check.due("all have the same to lend", x.ring(), -1);
    }

    @Says("the fewest THREES (2 or more)")
    static void promise29_fewestAheadOfTheLeastSet() {
        OneEye x = Edge.threes(4);
        x.lends(0, 0, 2, true);
        x.lends(1, 1, 0, true);
        x.lends(2, 2, 1, true);
        check.due("0, 1 and 2", x.ring(), 7);
        x.lends(3, 1, 2, true);
        check.due("2 and 3: fewer, though the set is greater", x.ring(), 12);
    }

    @Says("of several the least set as a number (three t counts 2 to the t)")
    static void promise29_ofSeveralTheLeastSet() {
        OneEye x = Edge.threes(4);
        int[][] pairs = {{2, 3}, {1, 3}, {0, 3}, {1, 2}, {0, 2}, {0, 1}};
        int[] due = {12, 10, 9, 6, 5, 3};
        for (int i = 0; i < pairs.length; i++) {
            OneEye y = Edge.threes(4);
            y.lends(pairs[i][0], 0, 1, true);
            y.lends(pairs[i][1], 1, 0, true);
            check.due("alone", y.ring(), due[i]);
        }
        x.lends(3, 0, 1, true);
        x.lends(2, 1, 0, true);
        check.due("2 and 3", x.ring(), 12);
        x.lends(1, 1, 0, true);
        check.due("1 and 3", x.ring(), 10);
        x.lends(0, 1, 0, true);
        check.due("0 and 3", x.ring(), 9);
        x.lends(2, 0, 1, true);
        check.due("0 and 2, or 1 and 2", x.ring(), 5);
        x.lends(1, 0, 1, true);
        check.due("0 and 1", x.ring(), 3);
    }

    @Says("of several the least set as a number (three t counts 2 to the t)")
    static void promise29_ofSeveralOfThreeTheLeastSet() {
        int[][] rings = {{1, 2, 3}, {0, 2, 3}, {0, 1, 3}, {0, 1, 2}};
        int[] due = {14, 13, 11, 7};
        for (int i = 0; i < 4; i++) {
            OneEye x = Edge.threes(4);
            for (int k = 0; k < 3; k++) {
                x.lends(rings[i][k], k, (k + 2) % 3, true);
            }
            check.due("alone", x.ring(), due[i]);
        }
        OneEye x = Edge.threes(4);
        for (int k = 0; k < 3; k++) {
            x.lends(1 + k, k, (k + 2) % 3, true);
        }
        x.lends(0, 2, 1, true);
        check.due("0 in the place of 3", x.ring(), 7);
    }
}
