/** Promises 18 to 21: each sentence of the document that names a boundary, with a test of its own. */
public final class BestEdgesTest {
    private static final int UNKNOWN = HermitsSpoon.UNKNOWN, NONE = HermitsSpoon.NONE, STATE = HermitsSpoon.STATE;
    private static final int LEAST = Integer.MIN_VALUE, GREATEST = Integer.MAX_VALUE;

    public static void main(String[] args) throws IllegalAccessException {
        Edges.run(BestEdgesTest.class, 18, 21);
    }

    // HERMITS with BITE 1, STORE 0 and these needs; a vow of this text.
    private static HermitsSpoon needing(String vow, int... needs) {
        HermitsSpoon x = new HermitsSpoon();
        for (int need : needs) {
            x.hermit(0, 0, need, 0, 1, 0);
        }
        Due.is("the vow " + vow, Due.vow(x, vow), 0);
        return x;
    }

    private static HermitsSpoon allStarved() {
        HermitsSpoon x = needing("l", 1, 2, 3);
        Due.is("live(0, 0, 0)", x.live(0, 0, 0), 7);
        Due.soup(x, 9);
        return x;
    }

    private static HermitsSpoon tenOfWhomTheLastNeedsMost(String vow) {
        HermitsSpoon x = needing(vow, 1, 1, 1, 1, 1, 1, 1, 1, 1, 9);
        Due.soup(x, 1);
        return x;
    }

    // ---- "the least of MEAL less NEED of all who have not STARVED (0, if there is nobody)"

    static void promise18_ofNobodyItIs0() {
        HermitsSpoon x = allStarved();
        for (int seat = 0; seat < 3; seat++) {
            Due.is("least(0, " + seat + ")", x.least(0, seat), 0);
        }
    }

    static void promise18_whoStarvedDoesNotCount() {
        HermitsSpoon x = needing("l", 9, 2);
        x.store(1, 2);
        Due.is("live(0, 0, 0)", x.live(0, 0, 0), 1);
        Due.is("least without soup", x.least(0, 0), -2);
        Due.soup(x, 5);
        Due.is("least", x.least(0, 0), 3);
    }

    static void promise18_aStoreOf0Counts() {
        Due.is("least without soup", needing("l", 99).least(0, 0), -99);
    }

    static void promise18_theGreatestLeast() {
        HermitsSpoon x = new HermitsSpoon();
        x.hermit(0, 0, 1, 1, 9, 0);
        Due.vow(x, "l");
        x.heat(300);
        Due.soup(x, 99, 99, 99, 99, 99);
        Due.is("least", x.least(0, 0), 99 * 15 - 1);
    }

    static void promise18_whoIsSkippedByTheVowCounts() {
        HermitsSpoon x = new HermitsSpoon();
        x.hermit(0, 0, 1, 0, 9, 0);
        x.hermit(2, 0, 7, 0, 9, 0);
        Due.vow(x, "ld");
        Due.soup(x, 99);
        Due.is("least", x.least(0, 0), -7);
    }

    static void promise18_itIs0AlsoIfAMealIsJustTheNeed() {
        HermitsSpoon x = needing("l", 1, 1);
        Due.soup(x, 2);
        Due.is("least of 2", x.least(0, 0), 0);
        Due.soup(x, 1);
        Due.is("least of 1", x.least(0, 0), -1);
        Due.soup(x, 4);
        Due.is("least of 4", x.least(0, 0), 1);
    }

    static void promise18_aVowOrSeatThatIsNotThereIsUnknown() {
        HermitsSpoon x = needing("l", 1, 1);
        for (int number : new int[] {-1, 2, 10, LEAST, GREATEST}) {
            Due.refused(x, "least(0, " + number + ")", () -> x.least(0, number), -1001);
            Due.refused(x, "least(" + number + ", 0)", () -> x.least(number, 0), -1001);
        }
        Due.refused(x, "least(1, 0)", () -> x.least(1, 0), -1001);
        HermitsSpoon nobody = needing("l");
        Due.refused(nobody, "least(0, 0) without HERMITS", () -> nobody.least(0, 0), -1001);
    }

    // ---- "the SEAT from which LEAST is greatest, of like ones the least"

    static void promise19_ofLikeOnesTheLeast() {
        HermitsSpoon all = needing("l", 5, 5, 5);
        Due.is("bestStart without soup", all.bestStart(0), 0);
        // Two bites: from 0 hermit 2 has none (-9), from 1 and 2 it has one (-8).
        HermitsSpoon x = needing("l", 1, 1, 9);
        Due.soup(x, 2);
        Due.is("bestStart of 1 and 2", x.bestStart(0), 1);
    }

    static void promise19_theLastSeatMayBeIt() {
        Due.is("bestStart of ten, l", tenOfWhomTheLastNeedsMost("l").bestStart(0), 9);
        Due.is("bestStart of ten, r", tenOfWhomTheLastNeedsMost("r").bestStart(0), 9);
    }

    static void promise19_itIsASeatNotAHermit() {
        HermitsSpoon x = tenOfWhomTheLastNeedsMost("l");
        x.change(9, 4);
        Due.is("bestStart", x.bestStart(0), 4);
    }

    static void promise19_ofNobodyItIsSeat0() {
        Due.is("bestStart", allStarved().bestStart(0), 0);
    }

    static void promise19_ofOneItIsSeat0() {
        Due.is("bestStart", needing("r", 3).bestStart(0), 0);
    }

    // ---- "UNKNOWN: vow; STATE: there are no HERMITS."

    static void promise19_withoutHermitsItIsState() {
        HermitsSpoon x = needing("l");
        Due.refused(x, "bestStart(0)", () -> x.bestStart(0), STATE);
    }

    static void promise19_unknownIsToldAheadOfState() {
        HermitsSpoon x = needing("l");
        for (int vow : new int[] {-1, 1, 6, LEAST, GREATEST}) {
            Due.refused(x, "bestStart(" + vow + ") without HERMITS", () -> x.bestStart(vow), UNKNOWN);
        }
        HermitsSpoon y = needing("l", 1);
        for (int vow : new int[] {-1, 1, 6, LEAST, GREATEST}) {
            Due.refused(y, "bestStart(" + vow + ")", () -> y.bestStart(vow), UNKNOWN);
        }
    }

    // ---- "of all exchanges of two HERMITS' SEATS (the first SEAT, then the second) .. of like ones the first"

    static void promise20_theFirstAndTheLastExchange() {
        HermitsSpoon first = needing("l", 1, 9, 1);
        Due.soup(first, 1);
        Due.is("bestSwap(0, 0): 0 and 1", first.bestSwap(0, 0), 1);
        Due.is("bestSwap(0, 8): 8 and 9", tenOfWhomTheLastNeedsMost("l").bestSwap(0, 8), 16 * 8 + 9);
        Due.is("bestSwap(0, 0): 0 and 9", tenOfWhomTheLastNeedsMost("r").bestSwap(0, 0), 9);
    }

    static void promise20_ofLikeOnesTheFirst() {
        // The first two bite: 2 must come to SEAT 0 or 1.
        HermitsSpoon x = needing("l", 1, 1, 9);
        Due.soup(x, 2);
        Due.is("bestSwap(0, 0): 0 and 2, 1 and 2", x.bestSwap(0, 0), 2);
        // Hermit 0 takes all: whoever is ahead of it, 1 has a bite then.
        HermitsSpoon y = new HermitsSpoon();
        y.hermit(0, 0, 1, 0, 9, 0);
        y.hermit(0, 0, 9, 0, 1, 0);
        y.hermit(0, 0, 1, 0, 1, 0);
        y.hermit(0, 0, 1, 0, 1, 0);
        Due.vow(y, "l");
        Due.soup(y, 9);
        Due.is("bestSwap(0, 0): 0 and 1, 0 and 2, 0 and 3", y.bestSwap(0, 0), 1);
    }

    static void promise20_theGreatestNotTheFirstThatIsGreater() {
        HermitsSpoon x = new HermitsSpoon();
        x.hermit(0, 0, 1, 0, 9, 0);
        x.hermit(0, 0, 2, 0, 1, 0);
        x.hermit(0, 0, 9, 0, 4, 0);
        Due.vow(x, "l");
        Due.soup(x, 6);
        // As it is 6, 0, 0 (-9); 0 and 1: 5, 1, 0 (-9); 0 and 2: 1, 1, 4 (-5); 1 and 2: 6, 0, 0 (-9).
        Due.is("bestSwap(0, 0)", x.bestSwap(0, 0), 2);
        // From SEAT 1 as it is: 1 | 4 | 1 are 1, 1, 4 (-5); 0 and 2: 1 | 5 (-9); 1 and 2: 4 | 1 | 1 (-5).
        Due.is("bestSwap(0, 1)", x.bestSwap(0, 1), NONE);
    }

    // ---- "none, if it is no greater than as it is"

    static void promise20_noGreaterIsNone() {
        HermitsSpoon alike = needing("l", 5, 5, 5);
        Due.soup(alike, 2);
        Due.is("all alike", alike.bestSwap(0, 0), NONE);
        Due.is("without soup", needing("l", 1, 2, 3).bestSwap(0, 1), NONE);
        HermitsSpoon best = needing("l", 9, 1, 1);
        Due.soup(best, 1);
        Due.is("as it is is best", best.bestSwap(0, 0), NONE);
        Due.is("of one", needing("l", 1).bestSwap(0, 0), NONE);
        Due.is("of nobody", allStarved().bestSwap(0, 0), NONE);
    }

    static void promise20_whoStarvedMayBeExchanged() {
        // The feeder's second bite is for the next SEAT: who starved there is fed in vain.
        HermitsSpoon x = new HermitsSpoon();
        x.hermit(4, 2, 1, 0, 1, 9);
        x.hermit(0, 0, 1, 0, 1, 0);
        x.hermit(2, 0, 9, 0, 1, 9);
        Due.vow(x, "ld");
        Due.is("live(0, 0, 7)", x.live(0, 0, 7), 2);
        Due.soup(x, 2);
        Due.is("least(0, 0)", x.least(0, 0), -9);
        // 0 and 1: 1, 0, 2 has the deaf one next to the feeder; so has 1 and 2, which is later.
        Due.is("bestSwap(0, 0)", x.bestSwap(0, 0), 1);
    }

    static void promise20_allStaySeated() {
        HermitsSpoon x = tenOfWhomTheLastNeedsMost("l");
        long before = x.digest();
        Due.is("bestSwap(0, 8)", x.bestSwap(0, 8), 137);
        Due.is("digest()", x.digest(), before);
    }

    static void promise20_aVowOrSeatThatIsNotThereIsUnknown() {
        HermitsSpoon x = needing("l", 1, 1);
        for (int number : new int[] {-1, 2, 10, LEAST, GREATEST}) {
            Due.refused(x, "bestSwap(0, " + number + ")", () -> x.bestSwap(0, number), UNKNOWN);
            Due.refused(x, "bestSwap(" + number + ", 0)", () -> x.bestSwap(number, 0), UNKNOWN);
        }
        HermitsSpoon nobody = needing("l");
        Due.refused(nobody, "bestSwap(0, 0) without HERMITS", () -> nobody.bestSwap(0, 0), UNKNOWN);
    }

    // ---- ""t" with 1 to 9 in place of what the VOW tells, or none (0): .. of like ones the least"

    static void promise21_ofLikeOnesTheLeast() {
        Due.is("bestStir without soup", needing("lt5", 1).bestStir(0, 0), 0);
        Due.is("bestStir of nobody", allStarved().bestStir(0, 0), 0);
        // t2: 1, 1, 2, 3, 4, 5 and t3: 1, 1, 2, 3, 4, 5 are 16; t4 15, t5 13, t6 10, none and t7 to t9 6.
        HermitsSpoon x = needing("l", 1);
        Due.soup(x, 6);
        Due.is("bestStir of t2 and t3", x.bestStir(0, 0), 2);
    }

    static void promise21_nineMayBeIt() {
        // 8 of 1; 16 are 3, 3, 3, 3, 4: 3, 6, 6; 8 are 1, 1, 2, 2, 2: 1, 2, 6, 8, 10.
        int[] least = new int[10];
        HermitsSpoon x = needing("l", 1);
        Due.soup(x, 24);
        for (int turns = 1; turns <= 9; turns++) {
            HermitsSpoon y = needing("lt" + turns, 1);
            Due.soup(y, 24);
            least[turns] = y.least(0, 0);
            Due.is("bestStir of lt" + turns, y.bestStir(0, 0), 9);
        }
        Due.is("least of t9", least[9], 49);
        for (int turns = 0; turns < 9; turns++) {
            Due.that("t" + turns + " is less", least[turns] < 49);
        }
        Due.is("least of none", x.least(0, 0), 23);
        Due.is("bestStir of l", x.bestStir(0, 0), 9);
    }

    static void promise21_tenIsNoneOfThem() {
        // By ten: 9; 19 are 3, 4, 4, 4, 4: 3, 8, 6; 10 are 2 each: 2, 4, 6, 8, 5; 5: 56. By 8: 7, 10, 14, 24: 55.
        HermitsSpoon x = needing("lt8", 1);
        Due.soup(x, 28);
        Due.is("least of t8", x.least(0, 0), 54);
        Due.is("bestStir", x.bestStir(0, 0), 8);
    }

    static void promise21_noneMayBeItThoughTheVowStirs() {
        // Soup in layer 4 is worth most: each stir lifts it.
        HermitsSpoon x = needing("lt3", 1);
        Due.soup(x, 0, 0, 0, 0, 20);
        Due.is("bestStir", x.bestStir(0, 0), 0);
        Due.is("TURNS stay", x.vowTold(0, 1), 3);
    }

    static void promise21_theRestOfTheVowHolds() {
        // By x1 there is one bite of 1, whatever one stirs; but by t1, where there is none.
        HermitsSpoon most = needing("lt1x1", 1);
        Due.soup(most, 24);
        Due.is("bestStir of lt1x1", most.bestStir(0, 0), 0);
        HermitsSpoon deaf = new HermitsSpoon();
        deaf.hermit(2, 0, 1, 0, 1, 9);
        Due.vow(deaf, "lt1d");
        Due.soup(deaf, 24);
        Due.is("bestStir of lt1d", deaf.bestStir(0, 0), 0);
    }

    static void promise21_aVowOrSeatThatIsNotThereIsUnknown() {
        HermitsSpoon x = needing("l", 1, 1);
        for (int number : new int[] {-1, 2, 10, LEAST, GREATEST}) {
            Due.refused(x, "bestStir(0, " + number + ")", () -> x.bestStir(0, number), UNKNOWN);
            Due.refused(x, "bestStir(" + number + ", 0)", () -> x.bestStir(number, 0), UNKNOWN);
        }
        HermitsSpoon nobody = needing("l");
        Due.refused(nobody, "bestStir(0, 0) without HERMITS", () -> nobody.bestStir(0, 0), UNKNOWN);
    }
}
