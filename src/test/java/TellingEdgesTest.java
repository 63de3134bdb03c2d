import java.math.BigInteger;

/** Promises 27 to 30: each sentence of the document that names a boundary, with a test of its own. */
public final class TellingEdgesTest {
    private static final int UNKNOWN = HermitsSpoon.UNKNOWN, OUTSIDE = HermitsSpoon.OUTSIDE, STATE = HermitsSpoon.STATE;
    private static final int FULL = HermitsSpoon.FULL, LEAST = Integer.MIN_VALUE, GREATEST = Integer.MAX_VALUE;

    public static void main(String[] args) throws IllegalAccessException {
        Edges.run(TellingEdgesTest.class, 27, 30);
    }

    // NEED 1, and as STORE its number and 10.
    private static HermitsSpoon hermits(int many) {
        HermitsSpoon x = new HermitsSpoon();
        for (int h = 0; h < many; h++) {
            x.hermit(0, 0, 1, 1, 1, 10 + h);
        }
        Due.vow(x, "l");
        return x;
    }

    private static void about(HermitsSpoon x, int what, int... due) {
        for (int h = 0; h < due.length; h++) {
            Due.is("about(" + h + ", " + what + ")", x.about(h, what), due[h]);
        }
    }

    private static void starve(HermitsSpoon x, int hermit) {
        x.store(hermit, 0);
        Due.is("live", x.live(0, 0, (1 << x.count(0)) - 1), 1 << hermit);
    }

    // All that an object may hold: ten, of whom one starved, six vows, a full page, most soup and heat, a feast.
    private static HermitsSpoon fullest() {
        HermitsSpoon x = new HermitsSpoon();
        for (int h = 0; h < 10; h++) {
            int kind = h % 5;
            x.hermit(kind, kind == 0 || kind == 2 ? 0 : 4, 99, h % 4, 9 - h % 9, 99);
        }
        Due.soup(x, 99, 99, 99, 99, 99);
        for (String vow : new String[] {"l", "rt9dx9", "lt2", "rd", "lx1", "rt1"}) {
            Due.vow(x, vow);
        }
        x.store(7, 0);
        Due.is("live", x.live(0, 0, 1023), 1 << 7);
        x.heat(300);
        x.feast(true);
        Due.write(x, "~}|{zyxwvutsrqpo");
        return x;
    }

    // ---- "An IMAGE is kept (one; the latest): how many HERMITS."

    static void promise27_ofNobodyAndOfTen() {
        Due.is("image() of a new one", new HermitsSpoon().image(), 0);
        Due.is("image() of ten", hermits(10).image(), 10);
    }

    static void promise27_itLeavesAll() {
        HermitsSpoon x = fullest();
        long before = x.digest();
        Due.is("image()", x.image(), 10);
        Due.is("digest()", x.digest(), before);
    }

    static void promise27_theLatestAloneIsKept() {
        HermitsSpoon x = hermits(2);
        x.heat(1);
        x.image();
        x.heat(2);
        x.image();
        x.heat(3);
        x.restore();
        Due.is("count(3)", x.count(3), 2);
        x.restore();
        Due.is("count(3) again", x.count(3), 2);
    }

    static void promise27_whoStarvedIsOneOfThem() {
        HermitsSpoon x = hermits(3);
        starve(x, 2);
        Due.is("image()", x.image(), 3);
    }

    static void promise27_whatComesLaterDoesNotChangeIt() {
        HermitsSpoon x = hermits(3);
        Due.soup(x, 1, 2, 3, 4, 5);
        x.image();
        long before = x.digest();
        Due.soup(x, 9, 9, 9, 9, 9);
        x.change(0, 2);
        x.store(1, 99);
        x.live(0, 0, 0);
        x.feast(true);
        x.heat(0);
        x.restore();
        Due.is("digest()", x.digest(), before);
    }

    // ---- "It goes on from the IMAGE .. STATE: none was kept."

    static void promise28_noneWasKept() {
        HermitsSpoon x = hermits(2);
        Due.refused(x, "restore()", x::restore, STATE);
        x.image();
        Due.is("restore() then", x.restore(), 2);
    }

    static void promise28_fromAnImageOfNothing() {
        HermitsSpoon x = new HermitsSpoon();
        x.image();
        Due.is("restore() of nobody", x.restore(), 0);
        Due.soup(x, 9, 9, 9, 9, 9);
        x.heat(300);
        x.feast(true);
        Due.is("restore()", x.restore(), 0);
        Due.is("count(2)", x.count(2), 0);
        Due.is("count(3)", x.count(3), 100);
        Due.is("count(4)", x.count(4), 0);
    }

    static void promise28_theEdgesOfSoupHeatAndFeast() {
        HermitsSpoon x = new HermitsSpoon();
        Due.soup(x, 99, 0, 99, 0, 99);
        x.heat(0);
        x.feast(true);
        x.image();
        Due.soup(x, 0, 99, 0, 99, 0);
        x.heat(300);
        x.feast(false);
        x.restore();
        int[] layers = {99, 0, 99, 0, 99};
        for (int layer = 0; layer < 5; layer++) {
            Due.is("soup(" + layer + ", 1)", x.soup(layer, 1), layers[layer]);
        }
        Due.is("count(3)", x.count(3), 0);
        Due.is("count(4)", x.count(4), 1);
    }

    static void promise28_whoStarvedSinceLivesWhoStarvedThenDoesNot() {
        HermitsSpoon x = hermits(2);
        starve(x, 0);
        x.image();
        x.store(0, 50);
        starve(x, 1);
        x.restore();
        about(x, 5, -1, 10);
        Due.is("count(5)", x.count(5), 1);
    }

    // ---- "(HERMITS that came since go to their own SEATS, with their STORES): how many HERMITS"

    static void promise28_whoCameSinceGoesToItsOwnSeat() {
        HermitsSpoon x = hermits(3);
        x.change(0, 2);
        x.image();
        x.hermit(0, 0, 1, 0, 1, 50);
        x.hermit(0, 0, 1, 0, 1, 51);
        x.change(0, 3);
        x.change(1, 4);
        x.change(3, 4);
        about(x, 6, 2, 3, 4, 0, 1);
        Due.is("restore()", x.restore(), 5);
        about(x, 6, 2, 1, 0, 3, 4);
    }

    static void promise28_whoCameSinceHasTheStoreOfNow() {
        HermitsSpoon x = hermits(1);
        x.image();
        x.hermit(0, 0, 1, 0, 1, 50);
        x.hermit(0, 0, 1, 0, 1, 60);
        x.hermit(0, 0, 1, 0, 1, 70);
        x.store(0, 99);
        x.store(1, 20);
        starve(x, 2);
        Due.is("restore()", x.restore(), 4);
        about(x, 5, 10, 19, -1, 69);
    }

    static void promise28_allTenCameSince() {
        HermitsSpoon x = new HermitsSpoon();
        x.image();
        for (int h = 0; h < 10; h++) {
            x.hermit(0, 0, 1, 0, 1, 9 - h);
        }
        for (int seat = 0; seat < 5; seat++) {
            x.change(seat, 9 - seat);
        }
        about(x, 6, 9, 8, 7, 6, 5, 4, 3, 2, 1, 0);
        Due.is("restore()", x.restore(), 10);
        about(x, 6, 0, 1, 2, 3, 4, 5, 6, 7, 8, 9);
        about(x, 5, 9, 8, 7, 6, 5, 4, 3, 2, 1, 0);
        Due.refused(x, "an eleventh", () -> x.hermit(0, 0, 1, 0, 1, 0), FULL);
    }

    static void promise28_vowsAndThePageStay() {
        HermitsSpoon x = hermits(1);
        Due.write(x, "r");
        x.image();
        Due.is("vow()", x.vow(), 1);
        Due.write(x, "ld");
        x.restore();
        Due.is("count(1)", x.count(1), 2);
        Due.is("count(6)", x.count(6), 2);
        Due.is("vow()", x.vow(), 2);
    }

    static void promise28_refusedCallsLeaveTheImage() {
        HermitsSpoon x = hermits(2);
        x.image();
        long before = x.digest();
        Due.is("heat(301)", x.heat(301), OUTSIDE);
        Due.is("soup(0, 100)", x.soup(0, 100), OUTSIDE);
        Due.is("store(0, 100)", x.store(0, 100), -1002);
        Due.is("change(0, 0)", x.change(0, 0), UNKNOWN);
        Due.is("live(0, 2, 0)", x.live(0, 2, 0), UNKNOWN);
        Due.is("restore()", x.restore(), 2);
        Due.is("digest()", x.digest(), before);
    }

    // ---- "How many: 0 HERMITS, 1 VOWS, .. 6 letters of THE PAGE. OUTSIDE."

    static void promise29_ofTheFullest() {
        HermitsSpoon x = fullest();
        int[] counts = {10, 6, 495, 300, 1, 1, 16};
        for (int what = 0; what < counts.length; what++) {
            Due.is("count(" + what + ")", x.count(what), counts[what]);
        }
    }

    static void promise29_allTenStarved() {
        HermitsSpoon x = new HermitsSpoon();
        for (int h = 0; h < 10; h++) {
            x.hermit(0, 0, 1, 0, 1, 0);
        }
        Due.vow(x, "l");
        Due.is("count(5) of STORES of 0", x.count(5), 0);
        Due.is("live", x.live(0, 0, 0), 1023);
        Due.is("count(5)", x.count(5), 10);
        Due.is("count(0)", x.count(0), 10);
    }

    static void promise29_whatIs0To6() {
        HermitsSpoon x = fullest();
        for (int what : new int[] {-1, 7, LEAST, GREATEST}) {
            Due.refused(x, "count(" + what + ")", () -> x.count(what), OUTSIDE);
        }
    }

    // ---- "h is 541, then for each of these numbers, in order, 31 times h, and it (as longs, wrapping)"

    private static long folded(long... numbers) {
        long h = 541;
        for (long number : numbers) {
            h = 31 * h + number;
        }
        return h;
    }

    static void promise30_ofANewObject() {
        Due.is("digest()", new HermitsSpoon().digest(), folded(0, 0, 0, 0, 0, 0, 0, 0, 100, 0, 0, 0));
    }

    // "with HERMITS what day() .. tells"
    static void promise30_withoutHermitsAVowHasNoDay() {
        HermitsSpoon x = new HermitsSpoon();
        Due.vow(x, "rt9dx8");
        Due.soup(x, 1, 2, 3, 4, 5);
        Due.is("digest()", x.digest(), folded(1, 2, 3, 4, 5, 0, 9, 1, 8, 0, 1, 15, 100, 0, 0, 0));
    }

    static void promise30_withHermitsAVowHasItsDay() {
        HermitsSpoon x = new HermitsSpoon();
        x.hermit(3, 1, 5, 2, 1, 7);
        Due.vow(x, "l");
        Due.soup(x, 3);
        Due.is("digest()", x.digest(), folded(3, 1, 5, 2, 1, 7, 0, 3, 0, 0, 0, 0,
                1, 0, 0, 0, 2, 2, 0, 3, 3, 98, -2, 1, 1, 3, 100, 0, 0, 0));
    }

    static void promise30_whoStarvedIsMinus1AndNobodysLeastIs0() {
        HermitsSpoon x = new HermitsSpoon();
        x.hermit(0, 0, 5, 0, 1, 0);
        Due.vow(x, "l");
        Due.is("live", x.live(0, 0, 0), 1);
        Due.is("digest()", x.digest(), folded(0, 0, 5, 0, 1, -1, 0, 0, 0, 0, 0, 0,
                1, 0, 0, 0, 0, 0, 0, 0, 0, 100, 0, 1, 1, 0, 100, 0, 1, 0));
    }

    static void promise30_lettersAreTheirCodes() {
        HermitsSpoon x = new HermitsSpoon();
        x.letters(1 | 126 << 8 | 'l' << 16);
        Due.is("digest()", x.digest(), folded(0, 0, 0, 0, 0, 1, 126, 'l', 0, 0, 0, 100, 0, 0, 3));
        x.blank();
        Due.is("digest() of an empty page", x.digest(), new HermitsSpoon().digest());
    }

    static void promise30_itWraps() {
        HermitsSpoon x = fullest();
        BigInteger h = BigInteger.valueOf(541);
        for (int hermit = 0; hermit < 10; hermit++) {
            for (int what = 0; what <= 6; what++) {
                h = next(h, x.about(hermit, what));
            }
        }
        for (int layer = 0; layer < 5; layer++) {
            h = next(h, 99);
        }
        for (int vow = 0; vow < 6; vow++) {
            for (int what = 0; what <= 3; what++) {
                h = next(h, x.vowTold(vow, what));
            }
            for (int what = 0; what <= 5; what++) {
                h = next(h, x.day(vow, 0, 0, what));
            }
            h = next(h, x.least(vow, 0));
        }
        for (char sign : "~}|{zyxwvutsrqpo".toCharArray()) {
            h = next(h, sign);
        }
        for (int what = 0; what <= 6; what++) {
            h = next(h, x.count(what));
        }
        Due.that("it is beyond a long", h.bitLength() > 64);
        Due.is("digest()", x.digest(), h.longValue());
    }

    private static BigInteger next(BigInteger h, int number) {
        return h.multiply(BigInteger.valueOf(31)).add(BigInteger.valueOf(number));
    }

    static void promise30_itLeavesAll() {
        HermitsSpoon x = fullest();
        long first = x.digest();
        Due.is("digest() again", x.digest(), first);
        Due.is("count(6)", x.count(6), 16);
    }

    // "An object is used for at most 512 calls after it has been made"
    static void promise30_the512thCallIsAnswered() {
        HermitsSpoon x = new HermitsSpoon();
        for (int call = 1; call < 512; call++) {
            x.heat(call % 301);
        }
        Due.is("digest()", x.digest(), folded(0, 0, 0, 0, 0, 0, 0, 0, 511 % 301, 0, 0, 0));
    }
}
