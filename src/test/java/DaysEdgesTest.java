/** Promises 22 to 24: each sentence of the document that names a boundary of DAYS, with a test of its own. */
public final class DaysEdgesTest {
    private static final int UNKNOWN = HermitsSpoon.UNKNOWN, OUTSIDE = HermitsSpoon.OUTSIDE, NONE = HermitsSpoon.NONE;
    private static final int LEAST = Integer.MIN_VALUE, GREATEST = Integer.MAX_VALUE;

    public static void main(String[] args) throws IllegalAccessException {
        Edges.run(DaysEdgesTest.class, 22, 24);
    }

    private static HermitsSpoon alone(int need, int store) {
        HermitsSpoon x = new HermitsSpoon();
        x.hermit(0, 0, need, 1, 9, store);
        Due.vow(x, "l");
        return x;
    }

    // HERMITS with NEED 1 and these stores, and soup for one bite a day, which is worth so much.
    private static HermitsSpoon oneBiteADay(String vow, int worth, int... stores) {
        HermitsSpoon x = new HermitsSpoon();
        for (int store : stores) {
            x.hermit(0, 0, 1, 1, 9, store);
        }
        Due.is("the vow " + vow, Due.vow(x, vow), 0);
        Due.soup(x, worth % 2 == 1 ? worth : 0, worth % 2 == 0 ? worth / 2 : 0);
        return x;
    }

    private static void stores(HermitsSpoon x, int... due) {
        for (int h = 0; h < due.length; h++) {
            Due.is("about(" + h + ", 5)", x.about(h, 5), due[h]);
        }
    }

    // ---- "each STORE is MEAL more (99 at most then) and NEED less; who has less than 0 STARVED"

    static void promise22_0LivesLessStarves() {
        HermitsSpoon just = alone(5, 5);
        Due.is("live with just enough", just.live(0, 0, 0), 0);
        stores(just, 0);
        HermitsSpoon less = alone(5, 4);
        Due.is("live with 1 less", less.live(0, 0, 0), 1);
        stores(less, -1);
    }

    static void promise22_theMealCountsAheadOfTheNeed() {
        HermitsSpoon x = alone(5, 0);
        Due.soup(x, 5);
        Due.is("live with a meal of 5", x.live(0, 0, 0), 0);
        stores(x, 0);
        Due.soup(x, 4);
        Due.is("live with a meal of 4", x.live(0, 0, 0), 1);
    }

    static void promise22_99AtMostAheadOfTheNeed() {
        int[][] cases = {{99, 9, 1, 98}, {90, 9, 1, 98}, {89, 9, 1, 97}, {91, 9, 1, 98}, {99, 9, 99, 0}, {90, 9, 99, 0},
            {89, 9, 99, -1}, {99, 0, 99, 0}, {98, 0, 99, -1}};
        for (int[] c : cases) {
            HermitsSpoon x = alone(c[2], c[0]);
            Due.soup(x, c[1]);
            Due.is("live of " + c[0] + " and " + c[1] + " less " + c[2], x.live(0, 0, 0), c[3] < 0 ? 1 : 0);
            stores(x, c[3]);
        }
        HermitsSpoon most = alone(99, 0);
        Due.soup(most, 99, 99, 99, 99, 99);
        Due.is("live with the greatest meal", most.live(0, 0, 0), 0);
        stores(most, 0);
    }

    static void promise22_whoStarvedHasMinus1NotLess() {
        HermitsSpoon x = alone(99, 0);
        Due.is("live", x.live(0, 0, 0), 1);
        stores(x, -1);
    }

    static void promise22_whoStarvedBeforeIsNotToldAgain() {
        HermitsSpoon x = alone(99, 0);
        Due.is("live", x.live(0, 0, 0), 1);
        Due.is("live again", x.live(0, 0, 0), 0);
        stores(x, -1);
    }

    static void promise22_whoStarvedStaysSoThoughFed() {
        HermitsSpoon x = new HermitsSpoon();
        x.hermit(4, 2, 1, 0, 9, 50);
        x.hermit(0, 0, 1, 0, 9, 0);
        Due.vow(x, "l");
        Due.is("live without soup", x.live(0, 0, 0), 2);
        Due.soup(x, 18);
        Due.meals(x, 0, 0, 0, 9, 9);
        Due.is("live with soup", x.live(0, 0, 0), 0);
        stores(x, 57, -1);
    }

    static void promise22_tenMayStarveAtOnce() {
        HermitsSpoon x = oneBiteADay("l", 2, 0, 0, 0, 0, 0, 0, 0, 0, 0, 0);
        Due.is("live with all fasting", x.live(0, 9, 1023), 1023);
        HermitsSpoon y = oneBiteADay("l", 2, 0, 0, 0, 0, 0, 0, 0, 0, 0, 0);
        Due.is("live from 9 on", y.live(0, 9, 0), 511);
    }

    // ---- "(SOUP, HEAT stay as they are)"

    static void promise22_soupHeatFeastSeatsStay() {
        HermitsSpoon x = oneBiteADay("lt2", 1, 9, 9);
        Due.soup(x, 5, 6, 7, 8, 9);
        x.heat(22);
        x.feast(true);
        x.change(0, 1);
        Due.write(x, "rt");
        x.live(0, 0, 0);
        int[] layers = {5, 6, 7, 8, 9};
        for (int layer = 0; layer < 5; layer++) {
            Due.is("soup(" + layer + ", ..)", x.soup(layer, layers[layer]), layers[layer]);
        }
        Due.is("count(3)", x.count(3), 22);
        Due.is("count(4)", x.count(4), 1);
        Due.is("count(6)", x.count(6), 2);
        Due.is("about(0, 6)", x.about(0, 6), 1);
    }

    static void promise22_aRefusedDayIsNotLived() {
        HermitsSpoon x = oneBiteADay("l", 2, 5, 5);
        for (int number : new int[] {-1, 2, 10, LEAST, GREATEST}) {
            Due.refused(x, "live(" + number + ", 0, 0)", () -> x.live(number, 0, 0), UNKNOWN);
            Due.refused(x, "live(0, " + number + ", 0)", () -> x.live(0, number, 0), UNKNOWN);
            Due.refused(x, "live(0, " + number + ", 4): ahead of OUTSIDE", () -> x.live(0, number, 4), UNKNOWN);
        }
        Due.refused(x, "live(1, 0, 0)", () -> x.live(1, 0, 0), UNKNOWN);
        for (int fasts : new int[] {4, 1024, -1, LEAST, GREATEST}) {
            Due.refused(x, "live(0, 0, " + fasts + ")", () -> x.live(0, 0, fasts), OUTSIDE);
        }
        Due.is("live(0, 0, 3)", x.live(0, 0, 3), 0);
        stores(x, 4, 4);
        HermitsSpoon nobody = oneBiteADay("l", 2);
        Due.refused(nobody, "live(0, 0, 0) without HERMITS", () -> nobody.live(0, 0, 0), UNKNOWN);
    }

    // ---- "The day (from 1 to 60) on which a HERMIT would STARVE; NONE (0: it has)"

    static void promise23_onTheFirstDay() {
        Due.is("starves with 0", alone(1, 0).starves(0, 0, 0), 1);
        Due.is("starves with 98, NEED 99", alone(99, 98).starves(0, 0, 0), 1);
        Due.is("starves with 99, NEED 99", alone(99, 99).starves(0, 0, 0), 2);
    }

    static void promise23_onThe60thNotThe61st() {
        Due.is("starves with 58", alone(1, 58).starves(0, 0, 0), 59);
        Due.is("starves with 59", alone(1, 59).starves(0, 0, 0), 60);
        Due.is("starves with 60", alone(1, 60).starves(0, 0, 0), NONE);
        Due.is("starves with 99", alone(1, 99).starves(0, 0, 0), NONE);
    }

    static void promise23_itHas() {
        HermitsSpoon x = alone(99, 0);
        x.live(0, 0, 0);
        Due.is("starves of who STARVED", x.starves(0, 0, 0), 0);
        x.store(0, 0);
        Due.is("starves of who lives again", x.starves(0, 0, 0), 1);
    }

    // ---- "each with the SOUP, HEAT, FEAST as they are now"

    static void promise23_theSoupOfEachDayIsTheSame() {
        HermitsSpoon x = alone(9, 0);
        Due.soup(x, 9);
        x.heat(20);
        Due.is("starves with a meal of 9 a day", x.starves(0, 0, 0), NONE);
        x.heat(19);
        Due.is("starves with half of it", x.starves(0, 0, 0), 1);
    }

    // ---- "the spoon begins one SEAT further (by the VOW's way) each day", in the ring

    static void promise23_byLTheSpoonBeginsInTheNextSeatInTheRing() {
        // From 1: 1, 2, 0, 1, ..; 3 for three days.
        HermitsSpoon x = oneBiteADay("l", 3, 2, 0, 1);
        for (int h = 0; h < 3; h++) {
            Due.is("starves(0, 1, " + h + ")", x.starves(0, 1, h), NONE);
        }
        x.store(0, 1);
        Due.is("starves(0, 1, 0) with 1 less", x.starves(0, 1, 0), 2);
        x.store(0, 2);
        x.store(2, 0);
        Due.is("starves(0, 1, 2) with 1 less", x.starves(0, 1, 2), 1);
    }

    static void promise23_byRTheSpoonBeginsInTheSeatAheadInTheRing() {
        // From 1: 1, 0, 2, 1, ..
        HermitsSpoon x = oneBiteADay("r", 3, 1, 0, 2);
        for (int h = 0; h < 3; h++) {
            Due.is("starves(0, 1, " + h + ")", x.starves(0, 1, h), NONE);
        }
        x.store(2, 1);
        Due.is("starves(0, 1, 2) with 1 less", x.starves(0, 1, 2), 2);
        x.store(2, 2);
        x.store(0, 0);
        Due.is("starves(0, 1, 0) with 1 less", x.starves(0, 1, 0), 1);
    }

    static void promise23_sixRoundsOfTen() {
        // Nine for ten days: each round takes 1 of the store of hermit 0.
        HermitsSpoon x = oneBiteADay("l", 9, 6, 99, 99, 99, 99, 99, 99, 99, 99, 99);
        Due.is("starves(0, 0, 0) with 6", x.starves(0, 0, 0), NONE);
        x.store(0, 5);
        Due.is("starves(0, 0, 0) with 5", x.starves(0, 0, 0), 60);
        x.store(0, 4);
        Due.is("starves(0, 0, 0) with 4", x.starves(0, 0, 0), 50);
        x.store(0, 0);
        Due.is("starves(0, 0, 0) with 0", x.starves(0, 0, 0), 10);
        Due.is("starves(0, 1, 0) with 0", x.starves(0, 1, 0), 1);
    }

    static void promise23_whoStarvesOnTheWayIsSkippedThen() {
        // 1 starves on day 1; from then on 0 is the one whom the spoon comes to each day.
        HermitsSpoon x = oneBiteADay("l", 1, 0, 0);
        Due.is("starves(0, 0, 1)", x.starves(0, 0, 1), 1);
        Due.is("starves(0, 0, 0)", x.starves(0, 0, 0), NONE);
        Due.is("starves(0, 1, 0)", x.starves(0, 1, 0), 1);
        Due.is("starves(0, 1, 1)", x.starves(0, 1, 1), NONE);
    }

    // One needs 9 and starves on day 3, behind a whole round of two days; the other needs 2 and has 3 each day then.
    private static void oneStarvesBehindARound(int hungry, int seat, int store) {
        HermitsSpoon x = new HermitsSpoon();
        for (int h = 0; h < 2; h++) {
            x.hermit(0, 0, h == hungry ? 9 : 2, 0, 3, h == hungry ? store : 5);
        }
        Due.vow(x, "l");
        Due.soup(x, 3);
        Due.is("starves(0, " + seat + ", " + hungry + ")", x.starves(0, seat, hungry), 3);
        Due.is("starves(0, " + seat + ", " + (1 - hungry) + ")", x.starves(0, seat, 1 - hungry), NONE);
    }

    static void promise23_whoStarvesBehindAWholeRoundIsSkippedThen() {
        // From the other's SEAT: 11, 5, -4; from its own: 14, 5, -1.
        oneStarvesBehindARound(1, 0, 20);
        oneStarvesBehindARound(1, 1, 20);
        oneStarvesBehindARound(0, 1, 20);
        oneStarvesBehindARound(0, 0, 20);
    }

    static void promise23_itLeavesAll() {
        HermitsSpoon x = oneBiteADay("l", 1, 0, 0);
        long before = x.digest();
        x.starves(0, 0, 1);
        Due.is("digest()", x.digest(), before);
    }

    static void promise23_aVowASeatOrAHermitThatIsNotThereIsUnknown() {
        HermitsSpoon x = oneBiteADay("l", 1, 0, 0);
        for (int number : new int[] {-1, 2, 10, LEAST, GREATEST}) {
            Due.refused(x, "starves(" + number + ", 0, 0)", () -> x.starves(number, 0, 0), UNKNOWN);
            Due.refused(x, "starves(0, " + number + ", 0)", () -> x.starves(0, number, 0), UNKNOWN);
            Due.refused(x, "starves(0, 0, " + number + ")", () -> x.starves(0, 0, number), UNKNOWN);
        }
        x.live(0, 0, 3);
        Due.refused(x, "starves(1, 0, 0) of who STARVED", () -> x.starves(1, 0, 0), UNKNOWN);
        Due.refused(x, "starves(0, 2, 0) of who STARVED", () -> x.starves(0, 2, 0), UNKNOWN);
    }

    // ---- "on day d (from 0) HERMITS in the k SEATS from d times k on (in the ring) FAST"

    static void promise24_theKSeatsGoOnInTheRing() {
        // Of three, 2 fasting: 0 and 1, 2 and 0, 1 and 2; who eats: 2, 1, 0, 2, ..
        HermitsSpoon x = oneBiteADay("l", 3, 2, 1, 0);
        Due.is("fasting(0, 0, 1)", x.fasting(0, 0, 1), 2);
        Due.is("fasting(0, 0, 3)", x.fasting(0, 0, 3), 2);
        Due.is("fasting(0, 0, 30)", x.fasting(0, 0, 30), 2);
        // Then it is not 0's turn to eat before day 2: with 1 it starves on day 1.
        x.store(0, 1);
        Due.is("fasting(0, 0, 1), 0 has 1", x.fasting(0, 0, 1), 2);
        Due.is("fasting(0, 0, 2), 0 has 1", x.fasting(0, 0, 2), NONE);
    }

    static void promise24_oneFastsInTheRing() {
        // One of two fasts: 0, 1, 0, ..: 1 eats, then 0, then 1; without fasts from 0 it is 0, then 1.
        HermitsSpoon x = oneBiteADay("l", 2, 1, 0);
        Due.is("fasting(0, 0, 30)", x.fasting(0, 0, 30), 1);
        Due.is("fasting(0, 1, 30)", x.fasting(0, 1, 30), 0);
        x.store(0, 0);
        Due.is("fasting(0, 0, 1), both have 0", x.fasting(0, 0, 1), NONE);
    }

    static void promise24_theyAreSeatsNotHermits() {
        HermitsSpoon x = oneBiteADay("l", 3, 0, 1, 2);
        x.change(0, 2);
        Due.is("fasting(0, 0, 30)", x.fasting(0, 0, 30), 2);
    }

    static void promise24_theyAreCountedFromSeat0WhereverTheSpoonBegins() {
        // From 1 on 2 must eat: by k of 1 SEAT 0 fasts, and 1 eats; by k of 2 0 and 1 fast.
        HermitsSpoon x = oneBiteADay("l", 3, 9, 9, 0);
        Due.is("fasting(0, 1, 1)", x.fasting(0, 1, 1), 2);
        Due.is("fasting(0, 2, 1)", x.fasting(0, 2, 1), 0);
    }

    // ---- "The least k (0 up to one less than how many HERMITS there are)"

    static void promise24_nobodyNeedFast() {
        HermitsSpoon x = oneBiteADay("r", 3, 0, 2, 1);
        Due.is("fasting(0, 0, 30)", x.fasting(0, 0, 30), 0);
        Due.is("fasting of one", alone(1, 30).fasting(0, 0, 30), 0);
    }

    static void promise24_nineOfTen() {
        // Who eats: 9, 8, .. 0, 9, ..; by less than 9 on day 0 it is not 9.
        HermitsSpoon x = oneBiteADay("l", 18, 9, 8, 7, 6, 5, 4, 3, 2, 1, 0);
        Due.is("fasting(0, 0, 30)", x.fasting(0, 0, 30), 9);
        Due.is("fasting(0, 0, 1)", x.fasting(0, 0, 1), 9);
    }

    static void promise24_ofSeveralTheLeast() {
        // Of three from 0 on 1 must eat on day 0: by k of 1 it does.
        HermitsSpoon x = oneBiteADay("l", 3, 9, 0, 9);
        Due.is("fasting(0, 0, 1)", x.fasting(0, 0, 1), 1);
    }

    static void promise24_allFastingIsNoneOfThem() {
        HermitsSpoon x = alone(1, 0);
        Due.is("fasting(0, 0, 1) of one", x.fasting(0, 0, 1), NONE);
        HermitsSpoon two = oneBiteADay("l", 1, 0, 0);
        Due.is("fasting(0, 0, 1) of two", two.fasting(0, 0, 1), NONE);
    }

    // ---- "nobody who lives now STARVES in so many days"

    static void promise24_theLastDayCountsTheNextDoesNot() {
        HermitsSpoon x = alone(1, 29);
        Due.is("fasting(0, 0, 29)", x.fasting(0, 0, 29), 0);
        Due.is("fasting(0, 0, 30)", x.fasting(0, 0, 30), NONE);
        x.store(0, 30);
        Due.is("fasting(0, 0, 30) with 30", x.fasting(0, 0, 30), 0);
        x.store(0, 1);
        Due.is("fasting(0, 0, 1) with 1", x.fasting(0, 0, 1), 0);
        Due.is("fasting(0, 0, 2) with 1", x.fasting(0, 0, 2), NONE);
    }

    static void promise24_whoStarvedBeforeDoesNotCount() {
        HermitsSpoon x = oneBiteADay("l", 3, 40, 0, 40);
        Due.is("live(0, 0, 7)", x.live(0, 0, 7), 2);
        Due.is("fasting(0, 0, 30)", x.fasting(0, 0, 30), 0);
        x.store(1, 0);
        // On day 0 SEAT 0 must fast so that 1 eats.
        Due.is("fasting(0, 0, 30) of who lives again", x.fasting(0, 0, 30), 1);
    }

    static void promise24_ofNobodyItIs0() {
        HermitsSpoon x = alone(99, 0);
        x.live(0, 0, 0);
        Due.is("fasting(0, 0, 1)", x.fasting(0, 0, 1), 0);
        Due.is("fasting(0, 0, 30)", x.fasting(0, 0, 30), 0);
    }

    static void promise24_seatsOfWhoStarvedAreCountedToo() {
        // 0 starved: by k of 1 its SEAT fasts on day 0 and nobody else; by k of 2 1 does, and 2 eats.
        HermitsSpoon x = oneBiteADay("l", 3, 0, 9, 1);
        Due.is("live(0, 0, 7)", x.live(0, 0, 7), 1);
        Due.is("fasting(0, 0, 1)", x.fasting(0, 0, 1), 2);
    }

    // ---- "UNKNOWN; OUTSIDE: days (1 to 30)"

    static void promise24_daysAre1To30() {
        HermitsSpoon x = alone(1, 99);
        Due.is("fasting(0, 0, 1)", x.fasting(0, 0, 1), 0);
        Due.is("fasting(0, 0, 30)", x.fasting(0, 0, 30), 0);
        for (int days : new int[] {0, -1, 31, LEAST, GREATEST}) {
            Due.refused(x, "fasting(0, 0, " + days + ")", () -> x.fasting(0, 0, days), OUTSIDE);
        }
    }

    static void promise24_unknownIsToldAheadOfOutside() {
        HermitsSpoon x = oneBiteADay("l", 1, 0, 0);
        for (int number : new int[] {-1, 2, 10, LEAST, GREATEST}) {
            Due.refused(x, "fasting(" + number + ", 0, 0)", () -> x.fasting(number, 0, 0), UNKNOWN);
            Due.refused(x, "fasting(0, " + number + ", 31)", () -> x.fasting(0, number, 31), UNKNOWN);
            Due.refused(x, "fasting(" + number + ", 0, 1)", () -> x.fasting(number, 0, 1), UNKNOWN);
            Due.refused(x, "fasting(0, " + number + ", 1)", () -> x.fasting(0, number, 1), UNKNOWN);
        }
        HermitsSpoon nobody = oneBiteADay("l", 1);
        Due.refused(nobody, "fasting(0, 0, 1) without HERMITS", () -> nobody.fasting(0, 0, 1), UNKNOWN);
    }

    static void promise24_itLeavesAll() {
        HermitsSpoon x = oneBiteADay("l", 3, 2, 1, 0);
        long before = x.digest();
        x.fasting(0, 0, 30);
        Due.is("digest()", x.digest(), before);
    }
}
