/** The document's boundary cases, promises 10 to 13: MINUTES, what is done in them, where things are, who KNOWS. */
public final class BoundaryMinutesTest {
    private static final Check check = new Check();
    private static final String[] THINGS = {"eye", "ear", "mouth"};

    public static void main(String[] args) {
        Cases.run(BoundaryMinutesTest.class, check);
    }

    private static OneEye clumsy(int spot) {
        OneEye x = new OneEye();
        x.state(Draws.stateForSpot(spot));
        x.three(1, 1000);
        return x;
    }

    private static void goTo(OneEye x, int minute) {
        int now = x.look(1);
        while (now < minute) {
            now = x.minutes(Math.min(1000, minute - now));
        }
    }

    // ---- Promise 10: how many

    @Says("MINUTES go by (1 .. 1000): MINUTE.")
    static void promise10_lessThan1OrMoreThan1000CantBe() {
        OneEye x = Edge.threes(1);
        Check.plan(x, 0, "see 1;");
        for (int n : Edge.outside(1, 1000)) {
            check.due("minutes(" + n + ")", x.minutes(n), -1);
        }
        check.due("MINUTE", x.look(1), 0);
        check.due("STATE", x.look(4), 0);
        check.due("SUNSET", x.look(5), -1);
        check.due("nothing seen", x.knows(0, 1), 0);
    }

    @Says("MINUTES go by (1 .. 1000): MINUTE.")
    static void promise10_1And1000CanBe() {
        OneEye x = Edge.threes(1);
        check.due("minutes(1)", x.minutes(1), 1);
        check.due("minutes(1000)", x.minutes(1000), 1001);
        check.due("HELD", x.held(0, 0), 1001);
    }

    @Says("NONE, and nothing is done, if one can't be, or beyond 99999.")
    static void promise10_upTo99999AndNotBeyond() {
        OneEye x = Edge.threes(1);
        goTo(x, 99000);
        check.due("1000 more", x.minutes(1000), -1);
        check.due("999 more", x.minutes(999), 99999);
        check.due("1 more", x.minutes(1), -1);
        check.due("MINUTE", x.look(1), 99999);
        check.due("HELD", x.held(0, 2), 99999);
    }

    @Says("NONE, and nothing is done, if one can't be, or beyond 99999.")
    static void promise10_beyond99999NothingIsDone() {
        Twins.Lead lead = x -> {
            goTo(x, 99990);
            Twins.busy(x);
            goTo(x, 99998);
        };
        OneEye x = new OneEye();
        lead.on(x);
        check.due("MINUTE", x.look(1), 99998);
        Twins.unchanged(check, lead, y -> check.due("2 more", y.minutes(2), -1));
        Twins.unchanged(check, lead, y -> check.due("1000 more", y.minutes(1000), -1));
    }

    @Says("NONE, and nothing is done, if one can't be, or beyond 99999.")
    static void promise10_refusedChangesNothing() {
        Twins.unchanged(check, Twins::busy, x -> check.due("minutes(0)", x.minutes(0), -1));
        Twins.unchanged(check, Twins::busy, x -> check.due("minutes(-1)", x.minutes(-1), -1));
        Twins.unchanged(check, Twins::busy, x -> check.due("minutes(1001)", x.minutes(1001), -1));
    }

    @Says("MINUTES go by (1 .. 1000)")
    static void promise10_manyAtOnceAreAsOneByOne() {
        Twins.alike(check, x -> {
            Twins.busy(x);
            x.minutes(100);
        }, x -> {
            Twins.busy(x);
            for (int i = 0; i < 100; i++) {
                x.minutes(1);
            }
        });
    }

    @Says("MINUTES go by (1 .. 1000): MINUTE.")
    static void promise10_nobodyThereMinutesGoByStill() {
        OneEye x = new OneEye();
        check.due("minutes(1000)", x.minutes(1000), 1000);
    }

    // ---- Promise 10: STEPS

    @Says("Else the next STEP of its PLAN, if there is one, begins")
    static void promise10_planAtItsEndIsOver() {
        OneEye x = Edge.threes(1);
        Check.plan(x, 0, "see 1;");
        x.minutes(1);
        check.due("which comes next", x.of(0, 5), 1);
        x.minutes(100);
        check.due("none", x.of(0, 5), 1);
        check.due("it did not begin again", x.origin(0, 1, 1), 0);
    }

    @Says("THREE by THREE")
    static void promise10_threesDoInTheirOrder() {
        OneEye x = Edge.threes(4);
        Check.plan(x, 0, "see 1;say 1 to 1;");
        Check.plan(x, 1, "rest 1;say 1 to 2;");
        Check.plan(x, 2, "rest 1;say 1 to 3;");
        Check.plan(x, 3, "rest 1;say 1 to 0;");
        x.minutes(2);
        check.due("it went to 3 in one MINUTE", x.origin(9, 1, 2), 3);
        check.due("and round", x.origin(0, 1, 2), 4);
        OneEye y = Edge.threes(2);
        Check.plan(y, 1, "see 1;say 1 to 0;");
        Check.plan(y, 0, "rest 1;say 1 to 1;");
        y.minutes(2);
        check.due("THREE 0 had its turn ahead of that", y.look(2), 1);
    }

    @Says("it is handed over for HAND minutes, this one counted (with HAND 1 it is done at once)")
    static void promise10_hand1IsDoneAtOnce() {
        OneEye x = Edge.threes(1);
        Check.plan(x, 0, "give eye 2;see 1;");
        x.minutes(1);
        check.due("where", x.where(0, 0), 2);
        check.due("minutes left", x.of(0, 6), 0);
        check.due("HANDED", x.of(0, 2), 1);
        check.due("HELD", x.held(2, 0), 1);
        check.due("the next STEP has not begun", x.knows(2, 1), 0);
        x.minutes(1);
        check.due("the next STEP begins in the next minute", x.knows(2, 1), 2);
    }

    @Says("it is handed over for HAND minutes, this one counted")
    static void promise10_eachHandTakesItsMinutes() {
        for (int hand = 1; hand <= 9; hand++) {
            OneEye x = new OneEye();
            x.three(hand, 0);
            Check.plan(x, 0, "give mouth 1;see 1;");
            for (int i = 1; i < hand; i++) {
                x.minutes(1);
                check.due("handed over", x.where(0, 2), 3);
                check.due("minutes left", x.of(0, 6), hand - i);
                check.due("HANDED", x.of(0, 2), 0);
            }
            x.minutes(1);
            check.due("where", x.where(0, 2), 1);
            check.due("minutes left", x.of(0, 6), 0);
            check.due("HANDED", x.of(0, 2), 1);
            check.due("nothing seen yet", x.knows(0, 1), 0);
            x.minutes(1);
            check.due("seen", x.origin(0, 1, 1), hand);
        }
    }

    @Says("if that THING is with a MEMBER, and not M himself, it is handed over")
    static void promise10_giveToHimselfIsNothing() {
        OneEye x = new OneEye();
        x.three(9, 1000);
        Check.plan(x, 0, "give eye 0;give ear 0;give mouth 0;");
        x.minutes(1);
        int state = x.look(4);
        for (int i = 1; i <= 3; i++) {
            check.due("where", x.where(0, i - 1), 0);
            check.due("minutes left", x.of(0, 6), 0);
            check.due("which comes next", x.of(0, 5), i);
            x.minutes(1);
        }
        check.due("HANDED", x.of(0, 2), 0);
        check.due("no DRAW", x.look(4), state);
    }

    @Says("if that THING is with a MEMBER, and not M himself, it is handed over")
    static void promise10_giveOfWhatLiesOnASpotIsNothing() {
        for (int m = 0; m < 3; m++) {
            OneEye x = clumsy(m);
            Check.plan(x, 0, "give eye 1;give eye " + m + ";see 1;");
            x.minutes(1);
            check.due("where", x.where(0, 0), 10 + m);
            int state = x.look(4);
            x.minutes(1);
            check.due("where", x.where(0, 0), 10 + m);
            check.due("which comes next", x.of(0, 5), 2);
            check.due("HANDED", x.of(0, 2), 1);
            check.due("no DRAW", x.look(4), state);
        }
    }

    @Says("the MEMBER with the EYE KNOWS the FACT as it is now (without one: nothing)")
    static void promise10_seeWithoutAnEyeIsNothing() {
        OneEye x = clumsy(0);
        Check.plan(x, 0, "give eye 1;see 1;see 2;");
        x.minutes(3);
        for (int p = 0; p < 3; p++) {
            check.due("knows", x.knows(p, 1), 0);
            check.due("knows", x.knows(p, 2), 0);
        }
        check.due("the STEPS are gone", x.of(0, 5), 3);
    }

    @Says("the MEMBER with the EYE KNOWS the FACT as it is now")
    static void promise10_seeTellsTheFactAsItIsNow() {
        OneEye x = Edge.threes(1);
        x.fact(9, true);
        Check.plan(x, 0, "see 0;see 9;see 9;");
        x.minutes(2);
        check.due("not so", x.knows(0, 0), 2);
        check.due("so", x.knows(0, 9), 1);
        x.fact(9, false);
        check.due("what is known stays", x.knows(0, 9), 1);
        x.minutes(1);
        check.due("till it is seen anew", x.knows(0, 9), 2);
    }

    @Says("if the MEMBER with the MOUTH KNOWS something of the FACT")
    static void promise10_sayOfWhatIsNotKnownIsNothing() {
        OneEye x = Edge.threes(2);
        Check.plan(x, 0, "see 1;say 2 to 1;lie 2 to 1;give mouth 1;say 1 to 1;lie 1 to 1;");
        x.minutes(6);
        check.due("lines", x.look(2), 0);
        check.due("knows", x.knows(3, 1), 0);
        check.due("knows", x.knows(3, 2), 0);
        check.due("the STEPS are gone", x.of(0, 5), 6);
    }

    @Says("if the MEMBER with the MOUTH KNOWS something of the FACT")
    static void promise10_sayWithoutAMouthIsNothing() {
        OneEye x = clumsy(0);
        x.three(1, 0);
        Check.plan(x, 0, "see 1;give mouth 1;say 1 to 1;lie 1 to 0;");
        x.minutes(4);
        check.due("it lies on a SPOT", x.where(0, 2), 10);
        check.due("lines", x.look(2), 0);
        check.due("knows", x.knows(3, 1), 0);
    }

    @Says("and a MEMBER of that THREE has its EAR, the latter hears it")
    static void promise10_sayToNoEarIsNothing() {
        OneEye x = clumsy(8);
        x.three(1, 0);
        Check.plan(x, 0, "give ear 2;");
        Check.plan(x, 1, "see 1;say 1 to 0;lie 1 to 0;");
        x.minutes(3);
        check.due("it lies on a SPOT", x.where(0, 1), 18);
        check.due("lines", x.look(2), 0);
        OneEye y = new OneEye();
        y.three(3, 0);
        y.three(1, 0);
        Check.plan(y, 0, "rest 1;give ear 2;");
        Check.plan(y, 1, "see 1;say 1 to 0;say 1 to 0;say 1 to 0;");
        y.minutes(3);
        check.due("it is handed over", y.where(0, 1), 3);
        check.due("lines", y.look(2), 0);
        y.minutes(1);
        check.due("MEMBER 2 has it now, and hears", y.knows(2, 1), 2);
    }

    @Says("lie: the other way round")
    static void promise10_lieIsTheOtherWayRound() {
        OneEye x = Edge.threes(2);
        x.fact(1, true);
        Check.plan(x, 0, "see 1;see 2;lie 1 to 1;lie 2 to 1;");
        x.minutes(4);
        check.due("so, said not to be", x.knows(3, 1), 2);
        check.due("not so, said to be", x.knows(3, 2), 1);
        check.due("as it was said", x.book(0, 2), 0);
        check.due("as it was said", x.book(1, 2), 1);
        check.due("who lies KNOWS better", x.knows(0, 1), 1);
        check.due("who lies KNOWS better", x.knows(0, 2), 2);
    }

    @Says("rest: so many minutes, this one counted")
    static void promise10_rest1IsOneMinuteAndRest99NinetyNine() {
        OneEye x = Edge.threes(1);
        Check.plan(x, 0, "rest 1;rest 99;see 1;");
        x.minutes(1);
        check.due("rest 1 is over", x.of(0, 6), 0);
        x.minutes(1);
        check.due("rest 99", x.of(0, 6), 98);
        x.minutes(97);
        check.due("one is left", x.of(0, 6), 1);
        x.minutes(1);
        check.due("none is left", x.of(0, 6), 0);
        check.due("nothing seen yet", x.knows(0, 1), 0);
        x.minutes(1);
        check.due("seen", x.origin(0, 1, 1), 100);
    }

    @Says("feel: two minutes, this one counted; behind them, if the THING is on that SPOT then")
    static void promise10_feelTakesTwoMinutes() {
        OneEye x = clumsy(8);
        Check.plan(x, 0, "give eye 1;feel eye 8;see 1;");
        x.minutes(2);
        check.due("one is left", x.of(0, 6), 1);
        check.due("not felt yet", x.where(0, 0), 18);
        x.minutes(1);
        check.due("none is left", x.of(0, 6), 0);
        check.due("felt", x.where(0, 0), 1);
        check.due("nothing seen yet", x.knows(1, 1), 0);
        check.due("HELD", x.held(1, 0), 1);
        x.minutes(1);
        check.due("seen", x.origin(1, 1, 1), 3);
    }

    @Says("if the THING is on that SPOT then")
    static void promise10_feelElsewhereOrForAnotherThingIsNothing() {
        for (int spot = 0; spot < 9; spot++) {
            for (int felt = 0; felt < 9; felt++) {
                OneEye x = clumsy(spot);
                Check.plan(x, 0, "give ear 1;feel ear " + felt + ";");
                x.minutes(3);
                check.due("SPOT " + spot + ", felt " + felt, x.where(0, 1), felt == spot ? 1 : 10 + spot);
            }
        }
        OneEye x = clumsy(3);
        Check.plan(x, 0, "give ear 1;feel eye 3;feel mouth 3;");
        x.minutes(5);
        check.due("another THING", x.where(0, 1), 13);
        check.due("what is held stays", x.where(0, 0), 0);
        check.due("what is held stays", x.where(0, 2), 0);
    }

    @Says("the MEMBER with the least number who has no THING has it")
    static void promise10_leastMemberWithoutAThingHasWhatIsFelt() {
        // The others' places, then who has none: MEMBERS 0, 1 or 2, by the least.
        int[][] due = {{0, 0, 1}, {0, 1, 2}, {0, 2, 1}, {1, 0, 2}, {1, 1, 0}, {1, 2, 0}, {2, 0, 1}, {2, 1, 0},
            {2, 2, 0}};
        for (int thing = 0; thing < 3; thing++) {
            for (int[] row : due) {
                feltBy(thing, row[0], row[1], row[2]);
            }
        }
    }

    private static void feltBy(int thing, int one, int other, int due) {
        OneEye x = new OneEye();
        x.three(1, 1);
        String first = THINGS[(thing + 1) % 3];
        String second = THINGS[(thing + 2) % 3];
        String plan = "give " + first + " " + one + ";give " + second + " " + other + ";give " + THINGS[thing] + " 1;";
        // Those that are kept must not fall, the third must.
        int held = (one > 0 ? 1 : 0) + (other > 0 ? 1 : 0);
        int state = Draws.stateThat(v -> {
            Draws d = new Draws(v);
            d.of(61);
            boolean fits = true;
            for (int i = 0; i < held; i++) {
                fits &= d.of(1000) > 0;
            }
            return fits && d.of(1000) == 0 && d.of(9) == 6;
        });
        x.state(state);
        Check.plan(x, 0, plan + "feel " + THINGS[thing] + " 6;");
        x.minutes(3);
        check.due("one of them", x.where(0, (thing + 1) % 3), one);
        check.due("the other one", x.where(0, (thing + 2) % 3), other);
        check.due("the third fell", x.where(0, thing), 16);
        x.minutes(2);
        check.due("felt, the others with " + one + " and " + other, x.where(0, thing), due);
    }

    // ---- Promise 10: what falls

    @Says("a DRAW of 1000 (if DROP is above 0)")
    static void promise10_drop0DrawsNothing() {
        OneEye x = Edge.threes(1);
        Check.plan(x, 0, "give eye 1;give eye 2;give eye 0;");
        x.minutes(1);
        int state = x.look(4);
        check.due("the SUNSET's DRAW alone", state, 1013904223);
        x.minutes(2);
        check.due("STATE", x.look(4), state);
        check.due("HANDED", x.of(0, 2), 3);
        check.due("DROPPED", x.of(0, 3), 0);
    }

    @Says("a DRAW of 1000 (if DROP is above 0)")
    static void promise10_drop1DrawsOnce() {
        OneEye x = new OneEye();
        x.three(1, 1);
        Check.plan(x, 0, "give eye 1;");
        x.minutes(1);
        Draws d = new Draws(0);
        d.of(61);
        check.due("it does not fall", d.of(1000) > 0, true);
        check.due("STATE", x.look(4), d.state());
        check.due("where", x.where(0, 0), 1);
    }

    @Says("if that is below DROP, the THING falls")
    static void promise10_drawBelowDropFallsAndOneAtDropDoesNot() {
        for (int drawn : new int[] {0, 1, 500, 998, 999}) {
            int state = Draws.stateThat(v -> {
                Draws d = new Draws(v);
                d.of(61);
                return d.of(1000) == drawn;
            });
            for (int drop = Math.max(drawn, 1); drop <= drawn + 1; drop++) {
                OneEye x = new OneEye();
                x.state(state);
                x.three(1, drop);
                Check.plan(x, 0, "give ear 2;");
                x.minutes(1);
                boolean falls = drop > drawn;
                check.due("DRAW " + drawn + ", DROP " + drop, x.where(0, 1) >= 10, falls);
                check.due("DROPPED", x.of(0, 3), falls ? 1 : 0);
                check.due("HANDED", x.of(0, 2), 1);
            }
        }
    }

    @Says("DROP 0 .. 1000")
    static void promise10_drop1000FallsAlways() {
        for (int v = 0; v < 60; v++) {
            OneEye x = new OneEye();
            x.state(v * 104729);
            x.three(1, 1000);
            Check.plan(x, 0, "give mouth 1;");
            x.minutes(1);
            Draws d = new Draws(v * 104729);
            d.of(61);
            d.of(1000);
            check.due("where", x.where(0, 2), 10 + d.of(9));
            check.due("STATE", x.look(4), d.state());
        }
    }

    @Says("HANDED counts hand-overs that were done, DROPPED those that fell.")
    static void promise10_drawsComeWhenTheHandOverIsDone() {
        OneEye x = new OneEye();
        x.three(3, 1000);
        Check.plan(x, 0, "give eye 1;");
        x.minutes(2);
        check.due("no DRAW yet", x.look(4), 1013904223);
        check.due("DROPPED", x.of(0, 3), 0);
        x.minutes(1);
        Draws d = new Draws(1013904223);
        d.of(1000);
        check.due("where", x.where(0, 0), 10 + d.of(9));
        check.due("STATE", x.look(4), d.state());
        check.due("DROPPED", x.of(0, 3), 1);
    }

    // ---- Promise 10: NIGHT

    @Says("its SUNSET is told by a DRAW of 61, and 120")
    static void promise10_sunsetIs120To180() {
        for (int sunset = 120; sunset <= 180; sunset++) {
            OneEye x = new OneEye();
            x.state(Draws.stateForSunset(sunset));
            x.minutes(1);
            check.due("SUNSET", x.look(5), sunset);
        }
    }

    @Says("In a MINUTE whose place in its DAY is SUNSET or later, see does nothing.")
    static void promise10_seeAheadOfSunsetAndAtIt() {
        for (int sunset : new int[] {120, 121, 150, 180}) {
            OneEye x = Edge.threes(1);
            x.state(Draws.stateForSunset(sunset));
            goTo(x, sunset - 1);
            Check.plan(x, 0, "see 1;see 2;see 3;");
            x.minutes(1);
            check.due("the MINUTE ahead of SUNSET", x.origin(0, 1, 1), sunset - 1);
            x.minutes(2);
            check.due("SUNSET", x.knows(0, 2), 0);
            check.due("later", x.knows(0, 3), 0);
            check.due("the STEPS are gone", x.of(0, 5), 3);
        }
    }

    @Says("ahead of the first MINUTE of each (MINUTE 0, 240, ..)")
    static void promise10_nightEndsWithTheDay() {
        for (int day = 1; day <= 3; day++) {
            OneEye x = Edge.threes(1);
            goTo(x, 240 * day - 1);
            Check.plan(x, 0, "see 1;see 2;");
            x.minutes(1);
            check.due("place 239", x.knows(0, 1), 0);
            x.minutes(1);
            check.due("place 0", x.origin(0, 2, 1), 240 * day);
        }
    }

    @Says("ahead of the first MINUTE of each (MINUTE 0, 240, ..) its SUNSET is told by a DRAW of 61, and 120")
    static void promise10_eachDayHasOneDraw() {
        OneEye x = new OneEye();
        Draws d = new Draws(0);
        for (int day = 0; day < 5; day++) {
            int state = d.state();
            goTo(x, 240 * day);
            check.due("not drawn ahead of its MINUTE", x.look(4), state);
            int sunset = 120 + d.of(61);
            x.minutes(1);
            check.due("drawn", x.look(4), d.state());
            check.due("SUNSET", x.look(5), sunset);
            x.minutes(239);
            check.due("not drawn again", x.look(4), d.state());
            check.due("SUNSET", x.look(5), sunset);
        }
    }

    @Says("In a MINUTE whose place in its DAY is SUNSET or later, see does nothing.")
    static void promise10_nightHindersSeeAlone() {
        OneEye x = Edge.threes(2);
        Check.plan(x, 0, "see 1;");
        goTo(x, 200);
        Check.plan(x, 0, "say 1 to 1;give eye 1;");
        x.minutes(2);
        check.due("said", x.knows(3, 1), 2);
        check.due("given", x.where(0, 0), 1);
    }

    // ---- Promise 11

    @Says("NONE if there is none such.")
    static void promise11_noSuchThree() {
        for (int count = 0; count <= 4; count++) {
            OneEye x = Edge.threes(count);
            for (int t : Edge.outside(0, count - 1)) {
                check.due("where(" + t + ", 0) of " + count, x.where(t, 0), -1);
            }
            for (int t = 0; t < count; t++) {
                check.due("there", x.where(t, 2), 0);
            }
        }
    }

    @Says("NONE if there is none such.")
    static void promise11_noSuchThing() {
        OneEye x = Edge.threes(2);
        for (int thing : Edge.outside(0, 2)) {
            check.due("where(0, " + thing + ")", x.where(0, thing), -1);
            check.due("where(1, " + thing + ")", x.where(1, thing), -1);
        }
    }

    @Says("a MEMBER 0 .. 2, 3 handed over, 10 + s on SPOT s")
    static void promise11_eachMemberEachThingAndHandedOver() {
        for (int thing = 0; thing < 3; thing++) {
            for (int m = 1; m < 3; m++) {
                OneEye x = new OneEye();
                x.three(2, 0);
                Check.plan(x, 0, "give " + THINGS[thing] + " " + m + ";");
                check.due("MEMBER 0", x.where(0, thing), 0);
                x.minutes(1);
                check.due("handed over", x.where(0, thing), 3);
                x.minutes(1);
                for (int other = 0; other < 3; other++) {
                    check.due("where", x.where(0, other), other == thing ? m : 0);
                }
            }
        }
    }

    @Says("10 + s on SPOT s")
    static void promise11_eachSpotFrom0To8() {
        for (int spot = 0; spot < 9; spot++) {
            OneEye x = clumsy(spot);
            Check.plan(x, 0, "give mouth 2;");
            x.minutes(1);
            check.due("where", x.where(0, 2), 10 + spot);
        }
    }

    // ---- Promise 12

    @Says("0 nothing, 1 that it is so, 2 that it is not. NONE if one can't be.")
    static void promise12_noSuchPerson() {
        for (int count = 0; count <= 4; count++) {
            OneEye x = Edge.threes(count);
            for (int p : Edge.outside(0, 3 * count - 1)) {
                check.due("knows(" + p + ", 0) of " + count, x.knows(p, 0), -1);
            }
            for (int p = 0; p < 3 * count; p++) {
                check.due("there", x.knows(p, 9), 0);
            }
        }
    }

    @Says("NONE if one can't be.")
    static void promise12_noSuchFact() {
        OneEye x = Edge.threes(1);
        Check.plan(x, 0, "see 0;see 9;");
        x.minutes(2);
        for (int f : Edge.outside(0, 9)) {
            check.due("knows(0, " + f + ")", x.knows(0, f), -1);
        }
        check.due("knows(0, 0)", x.knows(0, 0), 2);
        check.due("knows(0, 9)", x.knows(0, 9), 2);
    }

    @Says("What a person KNOWS of a FACT: 0 nothing, 1 that it is so, 2 that it is not.")
    static void promise12_nothingSoAndNot() {
        OneEye x = Edge.threes(4);
        x.fact(9, true);
        Check.plan(x, 3, "give eye 2;see 9;see 8;");
        x.minutes(3);
        check.due("so", x.knows(11, 9), 1);
        check.due("not so", x.knows(11, 8), 2);
        check.due("nothing", x.knows(11, 7), 0);
        for (int p = 0; p < 11; p++) {
            check.due("nobody else", x.knows(p, 9), 0);
        }
    }

    @Says("One who hears TRUSTS it (he KNOWS it then), if he TRUSTS the THREE of the sayer")
    static void promise12_whatIsNotTrustedChangesNothing() {
        OneEye x = Edge.threes(2);
        x.fact(1, true);
        x.trust(3, 0, false);
        Check.plan(x, 0, "see 1;lie 1 to 1;lie 1 to 1;");
        Check.plan(x, 1, "rest 1;rest 1;see 1;");
        x.minutes(2);
        check.due("nothing", x.knows(3, 1), 0);
        check.due("it was said", x.look(2), 1);
        Check.plan(x, 1, "see 1;");
        x.minutes(1);
        check.due("seen", x.knows(3, 1), 1);
        Check.plan(x, 0, "lie 1 to 1;");
        x.minutes(1);
        check.due("still", x.knows(3, 1), 1);
        check.due("its ORIGIN, too", x.origin(3, 1, 2), 0);
        check.due("lines", x.look(2), 3);
    }

    @Says("the latter hears it as it is KNOWN; lie: the other way round")
    static void promise12_eachFactCanBeHeard() {
        for (int f = 0; f < 10; f++) {
            OneEye x = Edge.threes(2);
            x.fact(f, true);
            Check.plan(x, 0, "see " + f + ";say " + f + " to 1;lie " + f + " to 1;");
            x.minutes(2);
            for (int g = 0; g < 10; g++) {
                check.due("FACT " + g, x.knows(3, g), g == f ? 1 : 0);
            }
            x.minutes(1);
            check.due("a lie", x.knows(3, f), 2);
        }
    }

    // ---- Promise 13

    @Says("NONE if one can't be (nothing is KNOWN), or another what.")
    static void promise13_nothingIsKnown() {
        OneEye x = Edge.threes(1);
        Check.plan(x, 0, "see 1;");
        x.minutes(1);
        for (int what = 0; what < 4; what++) {
            check.due("another FACT", x.origin(0, 2, what), -1);
            check.due("another person", x.origin(1, 1, what), -1);
        }
    }

    @Says("NONE if one can't be (nothing is KNOWN), or another what.")
    static void promise13_noSuchPersonFactOrWhat() {
        OneEye x = Edge.threes(4);
        for (int t = 0; t < 4; t++) {
            Check.plan(x, t, "see 0;see 9;give eye 2;see 0;see 9;");
        }
        x.minutes(5);
        check.due("the first one", x.origin(0, 0, 0), 0);
        check.due("the last one", x.origin(11, 9, 1), 4);
        for (int p : Edge.outside(0, 11)) {
            check.due("origin(" + p + ", 0, 0)", x.origin(p, 0, 0), -1);
        }
        for (int f : Edge.outside(0, 9)) {
            check.due("origin(0, " + f + ", 0)", x.origin(0, f, 0), -1);
        }
        for (int what : Edge.outside(0, 3)) {
            check.due("origin(0, 0, " + what + ")", x.origin(0, 0, what), -1);
        }
    }

    @Says("0 who saw it, 1 the MINUTE, 2 sayings, 3 lies")
    static void promise13_whatIsSeenHasNoSayings() {
        OneEye x = Edge.threes(2);
        goTo(x, 100);
        Check.plan(x, 1, "give eye 2;see 4;");
        x.minutes(2);
        int[] due = {5, 101, 0, 0};
        for (int what = 0; what < 4; what++) {
            check.due("origin(5, 4, " + what + ")", x.origin(5, 4, what), due[what]);
        }
    }

    @Says("by how many sayings it came, how many of these were lies")
    static void promise13_sayingsAndLiesAreCounted() {
        OneEye x = Edge.threes(3);
        x.fact(4, true);
        Check.plan(x, 0, "see 4;lie 4 to 1;");
        Check.plan(x, 1, "rest 2;lie 4 to 2;");
        Check.plan(x, 2, "rest 3;say 4 to 0;");
        x.minutes(4);
        int[][] due = {{0, 0, 3, 2}, {0, 0, 1, 1}, {0, 0, 2, 2}};
        for (int t = 0; t < 3; t++) {
            for (int what = 0; what < 4; what++) {
                check.due("origin(" + 3 * t + ", 4, " + what + ")", x.origin(3 * t, 4, what), due[t][what]);
            }
        }
        check.due("two lies make it so again", x.knows(0, 4), 1);
        check.due("one does not", x.knows(3, 4), 2);
    }

    @Says("(what one sees anew, or hears and TRUSTS, has a new ORIGIN: that of the sayer, one saying more)")
    static void promise13_seenAnewOrHeardHasANewOrigin() {
        OneEye x = Edge.threes(2);
        Check.plan(x, 0, "see 4;say 4 to 0;say 4 to 0;see 4;");
        Check.plan(x, 1, "rest 5;see 4;say 4 to 0;");
        x.minutes(3);
        check.due("said to oneself twice", x.origin(0, 4, 2), 2);
        check.due("seen in", x.origin(0, 4, 1), 0);
        x.minutes(1);
        check.due("seen anew", x.origin(0, 4, 2), 0);
        check.due("seen in", x.origin(0, 4, 1), 3);
        x.minutes(3);
        check.due("heard of", x.origin(0, 4, 0), 3);
        check.due("seen in", x.origin(0, 4, 1), 5);
        check.due("sayings", x.origin(0, 4, 2), 1);
    }

    @Says("(what one sees anew, or hears and TRUSTS, has a new ORIGIN")
    static void promise13_liesAreOverWhenItIsSeenAnew() {
        OneEye x = Edge.threes(2);
        Check.plan(x, 0, "see 4;lie 4 to 1;lie 4 to 1;say 4 to 1;");
        Check.plan(x, 1, "rest 2;see 4;");
        int[] lies = {0, 1, 0, 0};
        for (int i = 1; i < 4; i++) {
            x.minutes(i == 1 ? 2 : 1);
            check.due("lies behind MINUTE " + i, x.origin(3, 4, 3), lies[i]);
        }
        check.due("heard behind the lies", x.origin(3, 4, 2), 1);
    }
}
