/** Promises 25 and 26: each sentence of the document that names a boundary, with a test of its own. */
public final class SchismTwiceEdgesTest {
    private static final int UNKNOWN = HermitsSpoon.UNKNOWN, OUTSIDE = HermitsSpoon.OUTSIDE, NONE = HermitsSpoon.NONE;
    private static final int LEAST = Integer.MIN_VALUE, GREATEST = Integer.MAX_VALUE, NOBODY = 1024;

    public static void main(String[] args) throws IllegalAccessException {
        Edges.run(SchismTwiceEdgesTest.class, 25, 26);
    }

    // So many of a kind with BITE 1, TEETH 0, and a vow of this text.
    private static HermitsSpoon ring(String vow, int many, int kind, int n) {
        HermitsSpoon x = new HermitsSpoon();
        for (int h = 0; h < many; h++) {
            x.hermit(kind, n, 1, 0, 1, 9);
        }
        Due.is("the vow " + vow, Due.vow(x, vow), 0);
        return x;
    }

    private static HermitsSpoon plainRing(int many) {
        return ring("l", many, 0, 0);
    }

    private static void starve(HermitsSpoon x, int hermit) {
        x.store(hermit, 0);
        Due.is("live", x.live(0, 0, (1 << x.count(0)) - 1), 1 << hermit);
    }

    // ---- "from START on, the other one .. from the SEAT half the ring further (rounded down)"

    static void promise25_theOtherBeginsHalfTheRingFurther() {
        for (int many = 4; many <= 10; many++) {
            HermitsSpoon x = plainRing(many);
            Due.soup(x, 2);
            for (int seat = 0; seat < many; seat++) {
                int[] meals = new int[many];
                meals[seat] = 1;
                meals[(seat + many / 2) % many] = 1;
                Due.schism(x, seat, 2, 0, meals);
            }
        }
    }

    static void promise25_halfOfThreeIsOne() {
        HermitsSpoon x = plainRing(3);
        Due.soup(x, 2);
        // 0 | (1: the first is there) | 1.
        Due.schism(x, 0, 3, 0, 1, 1, 0);
        // 2 | (0) | 0.
        Due.schism(x, 2, 3, 0, 1, 0, 1);
    }

    static void promise25_inARingOfTwoTheyMeetEachSecondTurn() {
        HermitsSpoon x = plainRing(2);
        Due.soup(x, 4);
        Due.schism(x, 0, 7, 0, 2, 2);
        Due.soup(x, 1);
        Due.schism(x, 1, 1, 0, 0, 1);
    }

    static void promise25_inARingOfOneNobodyBites() {
        HermitsSpoon x = plainRing(1);
        Due.soup(x, 5);
        Due.schism(x, 0, 300, 5, 0);
    }

    // ---- "the one goes to the next SEAT .., the other one to the one ahead", in the ring

    static void promise25_bothWrap() {
        HermitsSpoon x = plainRing(4);
        // From 3: 3 | 1 | (0) | 0 | 1 | 3 | (2) | 2.
        int[][] meals = {{0, 0, 0, 1}, {0, 1, 0, 1}, {1, 1, 0, 1}, {1, 2, 0, 1}, {1, 2, 0, 2}, {1, 2, 1, 2}};
        int[] turns = {1, 2, 4, 5, 6, 8};
        for (int soup = 1; soup <= 6; soup++) {
            Due.soup(x, soup);
            Due.schism(x, 3, turns[soup - 1], 0, meals[soup - 1]);
        }
    }

    static void promise25_itGoesBySeatsNotByNumbers() {
        HermitsSpoon x = plainRing(4);
        x.change(0, 1);
        Due.soup(x, 1);
        Due.schism(x, 0, 1, 0, 0, 1, 0, 0);
    }

    // ---- "a spoon that comes to who is SKIPPED (STARVED) goes on at once"

    static void promise25_theFirstMayBeginAtOneWhoStarved() {
        HermitsSpoon x = plainRing(4);
        starve(x, 0);
        Due.soup(x, 2);
        // Over 0: 1 | (2) | 2.
        Due.schism(x, 0, 3, 0, 0, 1, 1, 0);
    }

    static void promise25_theOtherMayBeginAtOneWhoStarved() {
        HermitsSpoon x = plainRing(4);
        starve(x, 2);
        Due.soup(x, 2);
        // 0 | over 2: (1) | 1.
        Due.schism(x, 0, 3, 0, 1, 1, 0, 0);
    }

    static void promise25_goingOnWrapsBothWays() {
        HermitsSpoon x = plainRing(4);
        starve(x, 0);
        Due.soup(x, 4);
        // 3 | 1 | over 0: 1 | over 0: 3.
        Due.schism(x, 3, 4, 0, 0, 2, 0, 2);
    }

    static void promise25_overSeveralWhoStarved() {
        HermitsSpoon x = plainRing(6);
        starve(x, 1);
        starve(x, 2);
        Due.soup(x, 4);
        // 0 | 3 | over 1 and 2: 3 | over 2 and 1: 0.
        Due.schism(x, 0, 4, 0, 2, 0, 0, 2, 0, 0);
    }

    static void promise25_whereOneStarvedASpoonIsInNobodysWay() {
        HermitsSpoon x = plainRing(2);
        starve(x, 1);
        Due.soup(x, 3);
        Due.schism(x, 0, 3, 0, 3, 0);
    }

    static void promise25_ofNobodyItEndsAtFirst() {
        for (int many = 1; many <= 3; many++) {
            HermitsSpoon x = plainRing(many);
            for (int h = 0; h < many; h++) {
                starve(x, h);
            }
            Due.soup(x, 9);
            for (int seat = 0; seat < many; seat++) {
                Due.schism(x, seat, 0, 9, 0);
            }
        }
    }

    // ---- "if the other spoon is where it stands, it goes on (a TURN of 1 BEAT in which nobody bites)"

    static void promise25_meetingTakesABeat() {
        HermitsSpoon x = plainRing(2);
        Due.soup(x, 0, 2);
        x.heat(21);
        // At 21 | (20) | at 19.
        Due.schism(x, 0, 3, 0, 2, 1);
        x.heat(22);
        Due.schism(x, 0, 3, 0, 2, 2);
    }

    static void promise25_meetingAtASlowOneTakesOneBeat() {
        HermitsSpoon x = ring("l", 2, 1, 4);
        Due.soup(x, 0, 2);
        x.heat(25);
        // At 25 | (21) | at 20.
        Due.schism(x, 0, 3, 0, 2, 2);
        x.heat(24);
        Due.schism(x, 0, 3, 0, 2, 1);
    }

    static void promise25_meetingIsNoTurnOfAGreedyWithABite() {
        HermitsSpoon x = ring("l", 2, 3, 2);
        Due.soup(x, 3);
        // 0: one | (1) | 1: one | (0) | 0: two, of which there is one.
        Due.schism(x, 0, 5, 0, 2, 1);
    }

    // ---- "All else as in a DAY without "t", "d", "x"."

    static void promise25_withoutSoupItEndsAtFirst() {
        Due.schism(plainRing(3), 0, 0, 0, 0, 0, 0);
    }

    static void promise25_300BeatsEndIt() {
        HermitsSpoon x = plainRing(2);
        Due.soup(x, 99, 99, 99, 99, 99);
        // A bite and a meeting by turns: 150 bites.
        Due.schism(x, 0, 300, 345);
        Due.soup(x, 99, 50, 0, 0, 0);
        Due.schism(x, 0, 297, 0);
        Due.soup(x, 99, 51, 0, 0, 0);
        Due.schism(x, 0, 299, 0);
        Due.soup(x, 99, 52, 0, 0, 0);
        Due.schism(x, 0, 300, 1);
    }

    static void promise25_theLastTurnMayGoBeyond300Beats() {
        // 2 | (1) | 4 | (1) are 8 beats, 37 such 296: 298 | (299) | 303.
        HermitsSpoon x = new HermitsSpoon();
        x.hermit(1, 2, 1, 0, 1, 9);
        x.hermit(1, 4, 1, 0, 1, 9);
        Due.soup(x, 99, 99, 99, 99, 99);
        Due.schism(x, 0, 37 * 4 + 3, 495 - 37 * 2 - 2);
    }

    static void promise25_deafOnesBiteAndNobodyStirs() {
        HermitsSpoon x = ring("lt1dx1", 4, 2, 0);
        Due.soup(x, 2);
        Due.schism(x, 0, 2, 0, 1, 0, 1, 0);
    }

    static void promise25_aFeederFeedsTheNextSeatInTheRing() {
        HermitsSpoon x = ring("l", 4, 4, 2);
        Due.soup(x, 6);
        // 3 | 1 | (0) | 0 | 1, for 2 | 3, for 0.
        Due.schism(x, 3, 8, 0, 2, 1, 2, 1);
    }

    // ---- "what = 0 to 9 MEAL of that HERMIT (NONE: there is none), 10 .., 11 ... UNKNOWN: seat; OUTSIDE."

    static void promise25_whoIsNotThereIsNone() {
        HermitsSpoon x = plainRing(3);
        Due.soup(x, 1);
        Due.schism(x, 0, 1, 0, 1, 0, 0, NONE, NONE, NONE, NONE, NONE, NONE, NONE);
        HermitsSpoon ten = plainRing(10);
        Due.soup(ten, 1);
        Due.schism(ten, 9, 1, 0, 0, 0, 0, 0, 0, 0, 0, 0, 0, 1);
    }

    static void promise25_whatIs0To11() {
        HermitsSpoon x = plainRing(3);
        for (int what : new int[] {-1, 12, LEAST, GREATEST}) {
            Due.refused(x, "schism(0, " + what + ")", () -> x.schism(0, what), OUTSIDE);
        }
    }

    static void promise25_aSeatThatIsNotThereIsUnknownAheadOfAll() {
        HermitsSpoon x = plainRing(3);
        for (int seat : new int[] {-1, 3, 10, LEAST, GREATEST}) {
            for (int what : new int[] {0, 9, 11, 12, -1}) {
                Due.refused(x, "schism(" + seat + ", " + what + ")", () -> x.schism(seat, what), UNKNOWN);
            }
        }
        HermitsSpoon nobody = new HermitsSpoon();
        Due.refused(nobody, "schism(0, 0) without HERMITS", () -> nobody.schism(0, 0), UNKNOWN);
        Due.refused(nobody, "schism(0, 12) without HERMITS", () -> nobody.schism(0, 12), UNKNOWN);
    }

    static void promise25_itLeavesAllAndNeedsNoVow() {
        HermitsSpoon x = new HermitsSpoon();
        x.hermit(0, 0, 1, 0, 1, 9);
        x.hermit(0, 0, 1, 0, 1, 9);
        Due.soup(x, 2);
        long before = x.digest();
        Due.schism(x, 0, 3, 0, 1, 1);
        Due.is("digest()", x.digest(), before);
    }

    // ---- "if it alone took two bites in each of its TURNS with a bite"

    static void promise26_itAloneTookTwo() {
        HermitsSpoon x = plainRing(10);
        Due.soup(x, 99);
        Due.is("nobody, behind 10 turns", x.twice(0, 0, 10, 89), NOBODY);
        Due.is("any one, behind 10 turns", x.twice(0, 0, 10, 88), 1023);
        Due.is("two, behind 10 turns", x.twice(0, 0, 10, 87), 0);
        Due.is("who had a turn of the first five", x.twice(0, 0, 5, 93), 31);
        Due.is("who had none, and nobody", x.twice(0, 0, 5, 94), NOBODY + 1023 - 31);
        Due.is("the last one alone", x.twice(0, 9, 1, 97), 512);
        Due.is("who had two of eleven turns", x.twice(0, 0, 11, 86), 1);
        Due.is("who had one of eleven turns", x.twice(0, 0, 11, 87), 1022);
    }

    static void promise26_notInTurnsInWhichItStirs() {
        HermitsSpoon x = ring("lt1", 2, 0, 0);
        Due.soup(x, 99, 99, 99, 99, 99);
        Due.is("all explain 495", x.twice(0, 0, 60, 495), NOBODY + 3);
        Due.is("none explains 494", x.twice(0, 0, 60, 494), 0);
    }

    // ---- "(a GREEDY three where it takes two)"

    static void promise26_aGreedyTakesThreeWhereItTakesTwo() {
        HermitsSpoon x = ring("l", 1, 3, 2);
        Due.soup(x, 20);
        Due.is("nobody, one turn", x.twice(0, 0, 1, 19), NOBODY);
        Due.is("it, one turn: two", x.twice(0, 0, 1, 18), 1);
        Due.is("nobody, two turns", x.twice(0, 0, 2, 17), NOBODY);
        Due.is("it, two turns: two and three", x.twice(0, 0, 2, 15), 1);
    }

    static void promise26_theLastSoupIsAllThatThereIs() {
        HermitsSpoon x = ring("l", 1, 3, 1);
        for (int soup = 1; soup <= 4; soup++) {
            Due.soup(x, soup);
            Due.is("left of " + soup, x.twice(0, 0, 1, 0), soup <= 2 ? NOBODY + 1 : soup == 3 ? 1 : 0);
        }
        Due.is("1 left of 4", x.twice(0, 0, 1, 1), 1);
    }

    static void promise26_mostIsReachedEarlierByWhoTookTwice() {
        HermitsSpoon x = ring("lx2", 1, 0, 0);
        Due.soup(x, 9);
        Due.is("one turn, 8", x.twice(0, 0, 1, 8), NOBODY);
        Due.is("one turn, 7", x.twice(0, 0, 1, 7), 1);
        Due.is("two turns, 7: its day has ended", x.twice(0, 0, 2, 7), NOBODY + 1);
        Due.is("two turns, 5", x.twice(0, 0, 2, 5), 0);
    }

    // ---- "left behind so many TURNS of a DAY (or at its end)"

    static void promise26_atItsEndIfThatIsEarlier() {
        HermitsSpoon x = plainRing(1);
        Due.is("without soup all explain 0", x.twice(0, 0, 1, 0), NOBODY + 1);
        Due.soup(x, 2);
        Due.is("one turn, 1", x.twice(0, 0, 1, 1), NOBODY);
        Due.is("one turn, 0", x.twice(0, 0, 1, 0), 1);
        Due.is("two turns, 0", x.twice(0, 0, 2, 0), NOBODY + 1);
        Due.is("60 turns, 0", x.twice(0, 0, 60, 0), NOBODY + 1);
    }

    static void promise26_behindSixtyTurns() {
        HermitsSpoon x = plainRing(1);
        Due.soup(x, 99, 99, 99, 99, 99);
        Due.is("nobody, 60 turns", x.twice(0, 0, 60, 435), NOBODY);
        Due.is("it, 60 turns", x.twice(0, 0, 60, 375), 1);
    }

    static void promise26_whoIsSkippedExplainsAsNobody() {
        HermitsSpoon x = plainRing(2);
        starve(x, 1);
        Due.soup(x, 9);
        Due.is("nobody and who STARVED", x.twice(0, 0, 3, 6), NOBODY + 2);
        Due.is("who lives", x.twice(0, 0, 3, 3), 1);
        HermitsSpoon deaf = ring("ld", 1, 2, 0);
        Due.soup(deaf, 9);
        Due.is("a DEAF by d", deaf.twice(0, 0, 60, 9), NOBODY + 1);
        HermitsSpoon all = plainRing(1);
        starve(all, 0);
        Due.soup(all, 9);
        Due.is("all STARVED", all.twice(0, 0, 60, 9), NOBODY + 1);
    }

    // ---- "UNKNOWN; OUTSIDE: turns (1 to 60), left (0 to 495)."

    static void promise26_turnsAre1To60() {
        HermitsSpoon x = plainRing(2);
        Due.soup(x, 1);
        Due.is("turns 1", x.twice(0, 0, 1, 1), 0);
        Due.is("turns 60", x.twice(0, 0, 60, 1), 0);
        for (int turns : new int[] {0, -1, 61, LEAST, GREATEST}) {
            Due.refused(x, "twice(0, 0, " + turns + ", 0)", () -> x.twice(0, 0, turns, 0), OUTSIDE);
        }
    }

    static void promise26_leftIs0To495() {
        HermitsSpoon x = plainRing(2);
        Due.soup(x, 1);
        Due.is("left 495", x.twice(0, 0, 1, 495), 0);
        Due.is("left 0", x.twice(0, 0, 1, 0), NOBODY + 3);
        for (int left : new int[] {-1, 496, LEAST, GREATEST}) {
            Due.refused(x, "twice(0, 0, 1, " + left + ")", () -> x.twice(0, 0, 1, left), OUTSIDE);
        }
    }

    static void promise26_unknownIsToldAheadOfOutside() {
        HermitsSpoon x = plainRing(2);
        for (int number : new int[] {-1, 2, 10, LEAST, GREATEST}) {
            Due.refused(x, "twice(" + number + ", 0, 0, 0)", () -> x.twice(number, 0, 0, 0), UNKNOWN);
            Due.refused(x, "twice(0, " + number + ", 1, 496)", () -> x.twice(0, number, 1, 496), UNKNOWN);
            Due.refused(x, "twice(" + number + ", 0, 1, 0)", () -> x.twice(number, 0, 1, 0), UNKNOWN);
            Due.refused(x, "twice(0, " + number + ", 1, 0)", () -> x.twice(0, number, 1, 0), UNKNOWN);
        }
        Due.refused(x, "twice(1, 0, 1, 0)", () -> x.twice(1, 0, 1, 0), UNKNOWN);
        HermitsSpoon nobody = plainRing(0);
        Due.refused(nobody, "twice(0, 0, 1, 0) without HERMITS", () -> nobody.twice(0, 0, 1, 0), UNKNOWN);
    }

    static void promise26_itLeavesAll() {
        HermitsSpoon x = plainRing(3);
        Due.soup(x, 9);
        long before = x.digest();
        x.twice(0, 0, 3, 5);
        Due.is("digest()", x.digest(), before);
        Due.meals(x, 0, 0, 0, 3, 3, 3);
    }
}
