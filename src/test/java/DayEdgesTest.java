/** Promises 15 to 17: each sentence of the document that names a boundary of a DAY, with a test of its own. */
public final class DayEdgesTest {
    private static final int UNKNOWN = HermitsSpoon.UNKNOWN, OUTSIDE = HermitsSpoon.OUTSIDE, NONE = HermitsSpoon.NONE;
    private static final int LEAST = Integer.MIN_VALUE, GREATEST = Integer.MAX_VALUE;
    private static final int WHO = 0, FOR = 1, LAYER = 2, MUCH = 3, WORTH = 4;

    public static void main(String[] args) throws IllegalAccessException {
        Edges.run(DayEdgesTest.class, 15, 17);
    }

    // HERMITS with NEED 1, TEETH 0, STORE 9 and these bites; a vow of this text.
    private static HermitsSpoon plain(String vow, int... bites) {
        HermitsSpoon x = new HermitsSpoon();
        for (int bite : bites) {
            x.hermit(0, 0, 1, 0, bite, 9);
        }
        Due.is("the vow " + vow, Due.vow(x, vow), 0);
        return x;
    }

    // One of this kind with BITE 1, TEETH 0.
    private static HermitsSpoon alone(String vow, int kind, int n) {
        HermitsSpoon x = new HermitsSpoon();
        x.hermit(kind, n, 1, 0, 1, 9);
        Due.is("the vow " + vow, Due.vow(x, vow), 0);
        return x;
    }

    // What all bites of the day of vow 0 tell, the first one first; behind them there is none.
    private static void row(HermitsSpoon x, int seat, int fasts, int what, int... due) {
        for (int k = 0; k <= due.length; k++) {
            Due.is("bite(0, " + seat + ", " + fasts + ", " + k + ", " + what + ")", x.bite(0, seat, fasts, k, what),
                    k < due.length ? due[k] : NONE);
        }
    }

    private static void starveAll(HermitsSpoon x) {
        int all = (1 << x.count(0)) - 1;
        for (int h = 0; h < x.count(0); h++) {
            x.store(h, 0);
        }
        Due.is("live with all fasting", x.live(0, 0, all), all);
    }

    // ---- "the spoon goes from SEAT to SEAT", "of a ring"

    static void promise15_behindTheLastSeatComesTheFirst() {
        HermitsSpoon x = plain("l", 1, 2, 3);
        Due.soup(x, 12);
        row(x, 2, 0, WHO, 2, 0, 1, 2, 0, 1);
    }

    static void promise15_aheadOfTheFirstSeatIsTheLast() {
        HermitsSpoon x = plain("r", 1, 2, 3);
        Due.soup(x, 12);
        row(x, 0, 0, WHO, 0, 2, 1, 0, 2, 1);
    }

    static void promise15_aRingOfTenWrapsBothWays() {
        HermitsSpoon x = plain("l", 1, 1, 1, 1, 1, 1, 1, 1, 1, 1);
        Due.soup(x, 12);
        row(x, 9, 0, WHO, 9, 0, 1, 2, 3, 4, 5, 6, 7, 8, 9, 0);
        HermitsSpoon y = plain("r", 1, 1, 1, 1, 1, 1, 1, 1, 1, 1);
        Due.soup(y, 12);
        row(y, 0, 0, WHO, 0, 9, 8, 7, 6, 5, 4, 3, 2, 1, 0, 9);
    }

    static void promise15_inARingOfOneTheSpoonStays() {
        for (String way : new String[] {"l", "r"}) {
            HermitsSpoon x = plain(way, 2);
            Due.soup(x, 5);
            row(x, 0, 0, MUCH, 2, 2, 1);
            Due.day(x, 0, 0, 0, 3, 3, 0, 3, 5, 97);
        }
    }

    static void promise15_itGoesBySeatsNotByNumbers() {
        HermitsSpoon x = plain("l", 1, 1, 1);
        x.change(0, 2);
        Due.soup(x, 4);
        row(x, 0, 0, WHO, 2, 1, 0, 2);
    }

    // ---- "SKIPPED are: who STARVED, who FASTS, a DEAF by "d", who had MOST bites already"

    static void promise15_whoStarvedIsSkippedAndTakesNoTurn() {
        HermitsSpoon x = plain("l", 1, 1, 1);
        x.store(1, 0);
        Due.is("live(0, 0, 7)", x.live(0, 0, 7), 2);
        Due.soup(x, 4);
        row(x, 1, 0, WHO, 2, 0, 2, 0);
        Due.day(x, 0, 1, 0, 4, 4, 0, 4, 4, 96);
    }

    static void promise15_aStoreOf0IsNotSkipped() {
        HermitsSpoon x = plain("l", 1);
        x.store(0, 0);
        Due.soup(x, 1);
        Due.day(x, 0, 0, 0, 1, 1, 0, 1, 1, 99);
    }

    static void promise15_fastsAreBitsOfHermitsNotOfSeats() {
        HermitsSpoon x = plain("l", 1, 1, 1);
        x.change(0, 2);
        Due.soup(x, 4);
        row(x, 0, 1, WHO, 2, 1, 2, 1);
        row(x, 0, 4, WHO, 1, 0, 1, 0);
        row(x, 0, 5, WHO, 1, 1, 1, 1);
    }

    static void promise15_theLastOfTenFasts() {
        HermitsSpoon x = plain("l", 1, 1, 1, 1, 1, 1, 1, 1, 1, 1);
        Due.soup(x, 3);
        row(x, 8, 1 << 9, WHO, 8, 0, 1);
        row(x, 0, 1023 - 512, WHO, 9, 9, 9);
        row(x, 0, 1023, WHO);
    }

    static void promise15_aDeafIsSkippedByDAlone() {
        for (int kind = 0; kind < 5; kind++) {
            int n = kind == 0 || kind == 2 ? 0 : 2;
            HermitsSpoon x = alone("ld", kind, n);
            Due.soup(x, 1);
            Due.is("bites by ld, kind " + kind, x.day(0, 0, 0, 3), kind == 2 ? 0 : 1);
            HermitsSpoon y = alone("lt9x9", kind, n);
            Due.soup(y, 1);
            Due.is("bites by lt9x9, kind " + kind, y.day(0, 0, 0, 3), 1);
        }
    }

    static void promise15_mostOf1() {
        HermitsSpoon x = plain("lx1", 1, 1);
        Due.soup(x, 9);
        row(x, 1, 0, WHO, 1, 0);
        Due.day(x, 0, 1, 0, 2, 2, 7, 2, 2, 98);
    }

    static void promise15_mostOf9() {
        HermitsSpoon x = plain("rx9", 1);
        Due.soup(x, 10);
        Due.day(x, 0, 0, 0, 9, 9, 1, 9, 9, 91);
    }

    static void promise15_whoHadMostIsSkippedTheOthersGoOn() {
        HermitsSpoon x = new HermitsSpoon();
        x.hermit(3, 1, 1, 0, 1, 9);
        x.hermit(0, 0, 1, 0, 1, 9);
        Due.vow(x, "lx2");
        Due.soup(x, 9);
        row(x, 0, 0, WHO, 0, 0, 1, 1);
        Due.day(x, 0, 0, 0, 3, 3, 5, 4, 4, 97);
    }

    static void promise15_aStirIsNoBiteForMost() {
        HermitsSpoon x = plain("lt2x1", 1, 1);
        Due.soup(x, 9);
        // 0 bites | 1 stirs | over 0: 1 bites | all had MOST.
        row(x, 0, 0, WHO, 0, 1);
        Due.day(x, 0, 0, 0, 3);
    }

    static void promise15_aGreedyOneBelowMostTakesBoth() {
        HermitsSpoon x = alone("lx1", 3, 1);
        Due.soup(x, 9);
        Due.day(x, 0, 0, 0, 1, 1, 7, 2, 2, 99);
        HermitsSpoon y = alone("lx2", 3, 1);
        Due.soup(y, 9);
        Due.day(y, 0, 0, 0, 1, 1, 7, 2, 2, 99);
    }

    // ---- "By "t" in each TURN whose number by TURNS has no rest one STIRS"

    static void promise15_turns1StirAlways() {
        HermitsSpoon x = plain("lt1", 1);
        Due.soup(x, 7);
        Due.day(x, 0, 0, 0, 300, 300, 7, 0, 0, 0);
    }

    static void promise15_turns9StirInThe9thAndThe18thTurn() {
        HermitsSpoon x = plain("rt9", 1, 1);
        Due.soup(x, 20);
        // 8 from layer 0; 12 are 2, 2, 2, 3, 3; 8 more; 4 are 0, 1, 1, 1, 1.
        row(x, 0, 0, LAYER, 0, 0, 0, 0, 0, 0, 0, 0, 0, 0, 1, 1, 2, 2, 3, 3, 1, 2, 3, 4);
        Due.day(x, 0, 0, 0, 22, 22, 0, 20);
    }

    static void promise15_turnsAreCountedFrom1() {
        HermitsSpoon x = plain("lt2", 1);
        Due.soup(x, 1);
        Due.day(x, 0, 0, 0, 1, 1, 0, 1, 1, 99);
    }

    static void promise15_whoIsSkippedCountsNoTurn() {
        HermitsSpoon x = plain("lt3", 1, 1, 1);
        Due.soup(x, 4);
        // 0 | 2 | stir (0): 2 are 0, 0, 0, 1, 1 | 2 | 0.
        row(x, 0, 2, LAYER, 0, 0, 3, 4);
        row(x, 0, 2, WHO, 0, 2, 2, 0);
    }

    // ---- "shared out to the LAYERS alike, the rest 1 each to the lowest ones"

    static void promise15_theRestGoesToTheLowestLayers() {
        int[] firstLayer = {4, 3, 2, 1, 0, 0, 0, 0, 0, 0};
        int[] inIt = {1, 1, 1, 1, 1, 1, 1, 1, 1, 2};
        for (int left = 1; left <= 10; left++) {
            HermitsSpoon x = plain("lt2", 9);
            // One bite of 9, a stir, and then a bite from the first layer that is not empty.
            Due.soup(x, 9, left);
            Due.bite(x, 0, 0, 0, 1, 0, 0, firstLayer[left - 1], inIt[left - 1]);
        }
    }

    static void promise15_fullLayersStayFull() {
        HermitsSpoon x = plain("lt1", 1);
        Due.soup(x, 99, 99, 99, 99, 99);
        Due.day(x, 0, 0, 0, 300, 300, 495, 0, 0, 0);
        HermitsSpoon y = plain("lt2", 1);
        Due.soup(y, 99, 99, 99, 99, 99);
        // 494 are 98, 99, 99, 99, 99.
        Due.bite(y, 0, 0, 0, 1, 0, 0, 0, 1, 1);
    }

    // ---- "of a GREEDY two, in each n-th of its TURNS in which it bites"

    static void promise15_aGreedyOf1TakesTwoEachTurn() {
        HermitsSpoon x = alone("l", 3, 1);
        Due.soup(x, 10);
        Due.day(x, 0, 0, 0, 5, 5, 0, 10, 10, 95);
    }

    static void promise15_aGreedyOf4TakesTwoInTheFourthAndTheEighth() {
        HermitsSpoon x = alone("l", 3, 4);
        for (int soup = 1; soup <= 11; soup++) {
            Due.soup(x, soup);
            int[] turns = {1, 2, 3, 4, 4, 5, 6, 7, 8, 8, 9};
            Due.day(x, 0, 0, 0, turns[soup - 1], turns[soup - 1], 0, soup);
        }
    }

    static void promise15_turnsInWhichItStirsAreNotCounted() {
        HermitsSpoon x = alone("lt2", 3, 2);
        Due.soup(x, 3);
        // One | stir | two.
        Due.day(x, 0, 0, 0, 3, 3, 0, 3);
    }

    static void promise15_itsOwnTurnsAreCountedNotAll() {
        HermitsSpoon x = new HermitsSpoon();
        x.hermit(0, 0, 1, 0, 1, 9);
        x.hermit(3, 2, 1, 0, 1, 9);
        Due.vow(x, "l");
        Due.soup(x, 6);
        row(x, 0, 0, WHO, 0, 1, 0, 1, 1, 0);
    }

    static void promise15_withoutSoupForASecondBiteThereIsNone() {
        HermitsSpoon x = alone("l", 3, 1);
        Due.soup(x, 1);
        row(x, 0, 0, MUCH, 1);
        Due.day(x, 0, 0, 0, 1, 1, 0, 1, 1, 99);
        HermitsSpoon y = new HermitsSpoon();
        y.hermit(3, 1, 1, 0, 9, 9);
        Due.vow(y, "l");
        Due.soup(y, 0, 0, 0, 0, 9);
        row(y, 0, 0, MUCH, 9);
        Due.soup(y, 0, 0, 0, 0, 10);
        row(y, 0, 0, MUCH, 9, 1);
    }

    // ---- "A TURN takes 1 BEAT, of a SLOW n; HEAT is so much less then (0 at least)"

    static void promise15_beatsOfEachKind() {
        int[][] kinds = {{0, 0, 1}, {1, 2, 2}, {1, 4, 4}, {2, 0, 1}, {3, 1, 1}, {3, 4, 1}, {4, 2, 2}, {4, 4, 4}};
        for (int[] kind : kinds) {
            HermitsSpoon x = alone("l", kind[0], kind[1]);
            Due.soup(x, 1);
            Due.is("beats of kind " + kind[0] + ", n " + kind[1], x.day(0, 0, 0, 1), kind[2]);
            Due.is("heat then", x.day(0, 0, 0, 5), 100 - kind[2]);
        }
    }

    static void promise15_aStirOfASlowTakesItsBeats() {
        HermitsSpoon x = alone("lt1", 1, 3);
        Due.soup(x, 1);
        Due.day(x, 0, 0, 0, 100, 300, 1, 0, 0, 0);
    }

    static void promise15_heatIs0AtLeast() {
        HermitsSpoon x = alone("l", 1, 4);
        Due.soup(x, 1);
        int[] heats = {0, 1, 3, 4, 5};
        int[] then = {0, 0, 0, 0, 1};
        for (int i = 0; i < heats.length; i++) {
            x.heat(heats[i]);
            Due.is("heat of " + heats[i] + " in the end", x.day(0, 0, 0, 5), then[i]);
        }
    }

    // ---- "The DAY ends (at first, too) if there is no SOUP left, 300 BEATS or more have gone, or all are SKIPPED"

    static void promise15_withoutSoupItEndsAtFirst() {
        for (String vow : new String[] {"l", "rt1", "lt2dx1"}) {
            Due.day(plain(vow, 1, 1), 0, 1, 0, 0, 0, 0, 0, 0, 100);
        }
    }

    static void promise15_theLastSoupEndsIt() {
        HermitsSpoon x = plain("l", 3, 3);
        Due.soup(x, 0, 0, 0, 0, 6);
        Due.day(x, 0, 0, 0, 2, 2, 0, 2, 30, 98);
        Due.soup(x, 0, 0, 0, 0, 7);
        Due.day(x, 0, 0, 0, 3, 3, 0, 3, 35, 97);
    }

    static void promise15_299BeatsDoNotEndIt300Do() {
        HermitsSpoon x = plain("l", 1);
        Due.soup(x, 99, 99, 99);
        Due.day(x, 0, 0, 0, 297, 297, 0, 297);
        Due.soup(x, 99, 99, 99, 2);
        Due.day(x, 0, 0, 0, 299, 299, 0, 299);
        Due.soup(x, 99, 99, 99, 3);
        Due.day(x, 0, 0, 0, 300, 300, 0, 300);
        Due.soup(x, 99, 99, 99, 4);
        Due.day(x, 0, 0, 0, 300, 300, 1, 300);
    }

    static void promise15_theLastTurnMayGoBeyond300Beats() {
        HermitsSpoon x = new HermitsSpoon();
        x.hermit(1, 4, 1, 0, 1, 9);
        x.hermit(4, 4, 1, 0, 1, 9);
        x.hermit(1, 4, 1, 0, 1, 9);
        x.hermit(0, 0, 1, 0, 1, 9);
        Due.vow(x, "l");
        Due.soup(x, 99, 99, 99, 99, 99);
        // A round takes 13 beats, 23 rounds 299.
        Due.day(x, 0, 0, 0, 23 * 4 + 1, 303, 495 - 93, 93);
        // The last one first: 1, and 22 rounds, 287; 291, 295, 299; 300.
        Due.day(x, 0, 3, 0, 93, 300, 495 - 93, 93);
    }

    static void promise15_allSkippedEndsItAtFirst() {
        HermitsSpoon fasting = plain("l", 1, 1);
        Due.soup(fasting, 9);
        Due.day(fasting, 0, 0, 3, 0, 0, 9, 0, 0, 100);
        HermitsSpoon deaf = alone("ld", 2, 0);
        Due.soup(deaf, 9);
        Due.day(deaf, 0, 0, 0, 0, 0, 9, 0, 0, 100);
        HermitsSpoon starved = plain("lt1", 1, 1);
        Due.soup(starved, 9);
        starveAll(starved);
        Due.day(starved, 0, 1, 0, 0, 0, 9, 0, 0, 100);
    }

    static void promise15_allSkippedForSeveralReasonsEndsIt() {
        HermitsSpoon x = new HermitsSpoon();
        x.hermit(0, 0, 1, 0, 1, 0);
        x.hermit(2, 0, 1, 0, 1, 9);
        x.hermit(0, 0, 1, 0, 1, 9);
        x.hermit(0, 0, 1, 0, 1, 9);
        Due.vow(x, "rdx1");
        Due.is("live(0, 0, 15)", x.live(0, 0, 15), 1);
        Due.soup(x, 9);
        // 0 starved, 1 is deaf, 2 fasts, 3 has one bite.
        Due.day(x, 0, 0, 4, 1, 1, 8, 1, 1, 99);
    }

    static void promise15_whileAllButOneAreSkippedItGoesOn() {
        HermitsSpoon x = plain("l", 1, 1, 1);
        Due.soup(x, 5);
        Due.day(x, 0, 0, 5, 5, 5, 0, 5, 5, 95);
    }

    // ---- "A DAY: what = 0 .. 5"; a day is told, not lived

    static void promise15_itLeavesAllAsItIs() {
        HermitsSpoon x = plain("lt2", 1, 2);
        Due.soup(x, 9, 9, 9, 9, 9);
        long before = x.digest();
        for (int what = 0; what < 6; what++) {
            int first = x.day(0, 1, 0, what);
            Due.is("day(0, 1, 0, " + what + ") again", x.day(0, 1, 0, what), first);
        }
        Due.is("digest()", x.digest(), before);
    }

    // ---- "UNKNOWN: vow, seat; OUTSIDE: fasts (bits of HERMITS that there are)"

    static void promise15_aVowOrSeatThatIsNotThereIsUnknown() {
        HermitsSpoon x = plain("l", 1, 1);
        for (int vow : new int[] {-1, 1, 6, LEAST, GREATEST}) {
            Due.refused(x, "day(" + vow + ", 0, 0, 0)", () -> x.day(vow, 0, 0, 0), UNKNOWN);
        }
        for (int seat : new int[] {-1, 2, 10, LEAST, GREATEST}) {
            Due.refused(x, "day(0, " + seat + ", 0, 0)", () -> x.day(0, seat, 0, 0), UNKNOWN);
        }
        HermitsSpoon nobody = plain("l");
        Due.refused(nobody, "day(0, 0, 0, 0) without HERMITS", () -> nobody.day(0, 0, 0, 0), UNKNOWN);
    }

    static void promise15_fastsOfWhoIsNotThereAreOutside() {
        HermitsSpoon x = plain("l", 1, 1);
        for (int fasts : new int[] {4, 5, 8, 512, 1023, 1024, -1, LEAST, GREATEST}) {
            Due.refused(x, "day(0, 0, " + fasts + ", 0)", () -> x.day(0, 0, fasts, 0), OUTSIDE);
        }
        HermitsSpoon ten = plain("l", 1, 1, 1, 1, 1, 1, 1, 1, 1, 1);
        Due.soup(ten, 1);
        Due.is("day(0, 0, 1023, 0) of ten", ten.day(0, 0, 1023, 0), 0);
        Due.is("day(0, 0, 1022, 0) of ten", ten.day(0, 0, 1022, 0), 1);
        Due.refused(ten, "day(0, 0, 1024, 0) of ten", () -> ten.day(0, 0, 1024, 0), OUTSIDE);
    }

    static void promise15_whatIs0To5() {
        HermitsSpoon x = plain("l", 1, 1);
        for (int what : new int[] {-1, 6, LEAST, GREATEST}) {
            Due.refused(x, "day(0, 0, 0, " + what + ")", () -> x.day(0, 0, 0, what), OUTSIDE);
        }
    }

    static void promise15_unknownIsToldAheadOfOutside() {
        HermitsSpoon x = plain("l", 1, 1);
        Due.refused(x, "day(1, 0, 4, 6)", () -> x.day(1, 0, 4, 6), UNKNOWN);
        Due.refused(x, "day(0, 2, 4, 6)", () -> x.day(0, 2, 4, 6), UNKNOWN);
    }

    // ---- "MEAL: WORTH of all bites for a HERMIT", "UNKNOWN: vow, seat, hermit; OUTSIDE"

    static void promise16_whoIsSkippedHasNoMeal() {
        HermitsSpoon x = plain("l", 1, 1, 1);
        Due.soup(x, 5);
        Due.meals(x, 0, 0, 2, 3, 0, 2);
        Due.meals(x, 0, 0, 7, 0, 0, 0);
        Due.soup(x, 0);
        Due.meals(x, 0, 0, 0, 0, 0, 0);
    }

    static void promise16_theGreatestMeal() {
        HermitsSpoon x = new HermitsSpoon();
        x.hermit(0, 0, 1, 3, 9, 9);
        Due.vow(x, "l");
        x.heat(300);
        Due.soup(x, 99, 99, 99, 99, 99);
        Due.meals(x, 0, 0, 0, 99 * (1 + 2 + 3 + 4 + 5));
    }

    static void promise16_whoFastsIsFed() {
        HermitsSpoon x = new HermitsSpoon();
        x.hermit(0, 0, 1, 0, 1, 9);
        x.hermit(4, 2, 1, 0, 1, 9);
        Due.vow(x, "r");
        Due.soup(x, 4);
        Due.meals(x, 0, 0, 1, 2, 2);
    }

    static void promise16_whoStarvedIsFed() {
        HermitsSpoon x = new HermitsSpoon();
        x.hermit(0, 0, 1, 0, 1, 0);
        x.hermit(4, 3, 1, 0, 1, 9);
        Due.vow(x, "l");
        Due.is("live(0, 0, 3)", x.live(0, 0, 3), 1);
        Due.soup(x, 7);
        Due.meals(x, 0, 0, 0, 2, 5);
    }

    static void promise16_aHermitAVowOrASeatThatIsNotThereIsUnknown() {
        HermitsSpoon x = plain("l", 1, 1);
        for (int number : new int[] {-1, 2, 10, LEAST, GREATEST}) {
            Due.refused(x, "meal(0, 0, 0, " + number + ")", () -> x.meal(0, 0, 0, number), UNKNOWN);
            Due.refused(x, "meal(0, " + number + ", 0, 0)", () -> x.meal(0, number, 0, 0), UNKNOWN);
            Due.refused(x, "meal(" + number + ", 0, 0, 0)", () -> x.meal(number, 0, 0, 0), UNKNOWN);
        }
        Due.refused(x, "meal(1, 0, 0, 0)", () -> x.meal(1, 0, 0, 0), UNKNOWN);
    }

    static void promise16_fastsOfWhoIsNotThereAreOutside() {
        HermitsSpoon x = plain("l", 1, 1);
        for (int fasts : new int[] {4, 1024, -1, LEAST, GREATEST}) {
            Due.refused(x, "meal(0, 0, " + fasts + ", 0)", () -> x.meal(0, 0, fasts, 0), OUTSIDE);
            Due.refused(x, "meal(0, 0, " + fasts + ", 2): ahead of OUTSIDE", () -> x.meal(0, 0, fasts, 2), UNKNOWN);
        }
    }

    // ---- "up to BITE from the first LAYER that is not empty: its WORTH is how much by 1 and the number of the LAYER"

    static void promise17_aBiteIsFromOneLayerAlone() {
        HermitsSpoon x = plain("l", 9);
        Due.soup(x, 4, 9, 10, 0, 1);
        row(x, 0, 0, LAYER, 0, 1, 2, 2, 4);
        row(x, 0, 0, MUCH, 4, 9, 9, 1, 1);
        row(x, 0, 0, WORTH, 4, 18, 27, 3, 5);
    }

    static void promise17_emptyLayersAreGoneOver() {
        HermitsSpoon x = plain("l", 1);
        for (int layer = 0; layer < 5; layer++) {
            x.soup(layer, 1);
            Due.bite(x, 0, 0, 0, 0, 0, 0, layer, 1, layer + 1);
            x.soup(layer, 0);
        }
    }

    // ---- "half of it (rounded down), if HEAT is below 20"

    static void promise17_heat20IsWhole19IsHalf() {
        HermitsSpoon x = plain("l", 3);
        Due.soup(x, 9);
        int[] heats = {21, 20, 19, 0};
        int[][] worth = {{3, 3, 1}, {3, 1, 1}, {1, 1, 1}, {1, 1, 1}};
        for (int i = 0; i < heats.length; i++) {
            x.heat(heats[i]);
            row(x, 0, 0, WORTH, worth[i]);
        }
    }

    static void promise17_halfIsRoundedDown() {
        HermitsSpoon x = plain("l", 9);
        x.heat(0);
        for (int much = 1; much <= 9; much++) {
            Due.soup(x, much);
            Due.bite(x, 0, 0, 0, 0, 0, 0, 0, much, much / 2);
        }
        Due.soup(x, 0, 0, 0, 0, 9);
        Due.bite(x, 0, 0, 0, 0, 0, 0, 4, 9, 22);
    }

    static void promise17_bothBitesOfATurnAreAsWarm() {
        HermitsSpoon x = alone("l", 3, 1);
        x.heat(20);
        Due.soup(x, 0, 4);
        row(x, 0, 0, WORTH, 2, 2, 1, 1);
    }

    // ---- "0, if it is a FEAST, it is from LAYER 4, and whom it is for has TEETH 0"

    static void promise17_aFeastIsLostOnLayer4WithoutTeethAlone() {
        for (int teeth = 0; teeth <= 3; teeth++) {
            HermitsSpoon x = new HermitsSpoon();
            x.hermit(0, 0, 1, teeth, 9, 9);
            Due.vow(x, "l");
            Due.soup(x, 1, 1, 1, 1, 1);
            row(x, 0, 0, WORTH, 1, 2, 3, 4, 5);
            x.feast(true);
            row(x, 0, 0, WORTH, 1, 2, 3, 4, teeth == 0 ? 0 : 5);
            x.heat(0);
            row(x, 0, 0, WORTH, 0, 1, 1, 2, teeth == 0 ? 0 : 2);
        }
    }

    static void promise17_theTeethOfWhomItIsForCount() {
        HermitsSpoon x = new HermitsSpoon();
        x.hermit(4, 2, 1, 0, 1, 9);
        x.hermit(4, 2, 1, 1, 1, 9);
        Due.vow(x, "l");
        Due.soup(x, 0, 0, 0, 0, 4);
        x.feast(true);
        row(x, 0, 0, FOR, 0, 1, 1, 0);
        row(x, 0, 0, WORTH, 0, 5, 5, 0);
    }

    // ---- "each n-th bite of a FEEDER that DAY is for who sits in the next SEAT (in the ring)"

    static void promise17_aFeederInTheLastSeatFeedsTheFirst() {
        for (String way : new String[] {"l", "r"}) {
            HermitsSpoon x = new HermitsSpoon();
            x.hermit(0, 0, 1, 0, 1, 9);
            x.hermit(0, 0, 1, 0, 1, 9);
            x.hermit(4, 2, 1, 0, 1, 9);
            Due.vow(x, way);
            Due.soup(x, 5);
            row(x, 2, 3, FOR, 2, 0, 2, 0, 2);
            x.change(0, 1);
            row(x, 2, 3, FOR, 2, 1, 2, 1, 2);
            x.change(1, 2);
            row(x, 1, 3, FOR, 2, 0, 2, 0, 2);
        }
    }

    static void promise17_aFeederAloneFeedsItself() {
        HermitsSpoon x = alone("l", 4, 2);
        Due.soup(x, 4);
        row(x, 0, 0, FOR, 0, 0, 0, 0);
    }

    static void promise17_aFeederOf4GivesTheFourthAndTheEighth() {
        HermitsSpoon x = new HermitsSpoon();
        x.hermit(4, 4, 1, 0, 1, 9);
        x.hermit(0, 0, 1, 0, 1, 9);
        Due.vow(x, "l");
        Due.soup(x, 9);
        row(x, 0, 2, FOR, 0, 0, 0, 1, 0, 0, 0, 1, 0);
    }

    static void promise17_itsOwnBitesAreCountedNotTurnsInWhichItStirs() {
        HermitsSpoon x = new HermitsSpoon();
        x.hermit(4, 2, 1, 0, 1, 9);
        x.hermit(0, 0, 1, 0, 1, 9);
        Due.vow(x, "lt3");
        Due.soup(x, 8);
        // 0, 1, stir (0), 1, 0 for 1, stir (1), 0, 1, stir (0), 1, 0 for 1, stir (1), 0, ..
        row(x, 0, 0, WHO, 0, 1, 1, 0, 0, 1, 1, 0);
        row(x, 0, 0, FOR, 0, 1, 1, 1, 0, 1, 1, 1);
    }

    // ---- "NONE: there is no such one. UNKNOWN; OUTSIDE: fasts, k (0 to 599), what."

    static void promise17_behindTheLastBiteThereIsNone() {
        HermitsSpoon x = plain("l", 1);
        Due.bite(x, 0, 0, 0, 0, NONE, NONE, NONE, NONE, NONE);
        Due.soup(x, 2);
        Due.bite(x, 0, 0, 0, 1, 0, 0, 0, 1, 1);
        Due.bite(x, 0, 0, 0, 2, NONE, NONE, NONE, NONE, NONE);
        Due.bite(x, 0, 0, 0, 599, NONE, NONE, NONE, NONE, NONE);
        Due.bite(x, 0, 0, 1, 0, NONE, NONE, NONE, NONE, NONE);
    }

    static void promise17_theMostBites() {
        HermitsSpoon x = alone("l", 3, 1);
        x.heat(300);
        Due.soup(x, 99, 99, 99, 99, 99);
        Due.bite(x, 0, 0, 0, 494, 0, 0, 4, 1, 5);
        Due.bite(x, 0, 0, 0, 495, NONE);
        Due.day(x, 0, 0, 0, 248, 248, 0, 495);
    }

    static void promise17_kIs0To599() {
        HermitsSpoon x = plain("l", 1);
        for (int k : new int[] {-1, 600, LEAST, GREATEST}) {
            Due.refused(x, "bite(0, 0, 0, " + k + ", 0)", () -> x.bite(0, 0, 0, k, 0), OUTSIDE);
        }
    }

    static void promise17_whatIs0To4() {
        HermitsSpoon x = plain("l", 1);
        Due.soup(x, 1);
        for (int what : new int[] {-1, 5, LEAST, GREATEST}) {
            Due.refused(x, "bite(0, 0, 0, 0, " + what + ")", () -> x.bite(0, 0, 0, 0, what), OUTSIDE);
            Due.refused(x, "bite(0, 0, 0, 9, " + what + ")", () -> x.bite(0, 0, 0, 9, what), OUTSIDE);
        }
    }

    static void promise17_fastsOfWhoIsNotThereAreOutside() {
        HermitsSpoon x = plain("l", 1, 1);
        for (int fasts : new int[] {4, 1024, -1, LEAST, GREATEST}) {
            Due.refused(x, "bite(0, 0, " + fasts + ", 0, 0)", () -> x.bite(0, 0, fasts, 0, 0), OUTSIDE);
        }
    }

    static void promise17_unknownIsToldAheadOfOutside() {
        HermitsSpoon x = plain("l", 1, 1);
        for (int number : new int[] {-1, 2, 10, LEAST, GREATEST}) {
            Due.refused(x, "bite(0, " + number + ", 4, 600, 5)", () -> x.bite(0, number, 4, 600, 5), UNKNOWN);
            Due.refused(x, "bite(" + number + ", 0, 4, 600, 5)", () -> x.bite(number, 0, 4, 600, 5), UNKNOWN);
            Due.refused(x, "bite(0, " + number + ", 0, 0, 0)", () -> x.bite(0, number, 0, 0, 0), UNKNOWN);
            Due.refused(x, "bite(" + number + ", 0, 0, 0, 0)", () -> x.bite(number, 0, 0, 0, 0), UNKNOWN);
        }
    }
}
