/** Promises 27 to 30: images, counts, the digest. */
public final class TellingTest {
    private static final int OUTSIDE = HermitsSpoon.OUTSIDE, STATE = HermitsSpoon.STATE;

    public static void main(String[] args) {
        imageAndRestore();
        newcomers();
        count();
        digest();
        Due.end();
    }

    private static void imageAndRestore() {
        HermitsSpoon x = new HermitsSpoon();
        Due.is("restore without an image", x.restore(), STATE);
        x.hermit(0, 0, 9, 0, 1, 5);
        x.hermit(0, 0, 1, 0, 1, 50);
        Due.vow(x, "l");
        Due.is("live", x.live(0, 0, 0), 1);
        Due.soup(x, 1, 2, 3, 4, 5);
        x.heat(30);
        x.feast(true);
        x.change(0, 1);
        Due.is("image()", x.image(), 2);
        long before = x.digest();
        x.store(0, 7);
        x.live(0, 0, 0);
        x.change(0, 1);
        Due.soup(x, 9, 9, 9, 9, 9);
        x.heat(31);
        x.feast(false);
        Due.that("all is changed", x.digest() != before);
        Due.is("restore()", x.restore(), 2);
        Due.is("all is as it was", x.digest(), before);
        x.heat(31);
        Due.is("restore() again", x.restore(), 2);
        Due.is("all is as it was again", x.digest(), before);
        Due.is("who starved, starved again", x.about(0, 5), -1);
        x.heat(77);
        Due.is("the latest image", x.image(), 2);
        x.heat(78);
        x.restore();
        Due.is("heat of the latest", x.count(3), 77);
        x.letters('r');
        x.vow();
        x.letters('d');
        x.restore();
        Due.is("vows stay", x.count(1), 2);
        Due.is("the page stays", x.count(6), 1);
    }

    private static void newcomers() {
        HermitsSpoon x = new HermitsSpoon();
        x.hermit(0, 0, 1, 0, 1, 10);
        x.hermit(0, 0, 1, 0, 1, 11);
        x.change(0, 1);
        Due.is("image of two", x.image(), 2);
        x.hermit(0, 0, 1, 0, 1, 12);
        x.hermit(0, 0, 1, 0, 1, 13);
        x.store(2, 22);
        x.change(0, 2);
        x.change(1, 3);
        Due.is("restore of four", x.restore(), 4);
        int[] seats = {1, 0, 2, 3};
        int[] stores = {10, 11, 22, 13};
        for (int h = 0; h < 4; h++) {
            Due.is("seat of " + h, x.about(h, 6), seats[h]);
            Due.is("store of " + h, x.about(h, 5), stores[h]);
        }
        HermitsSpoon y = new HermitsSpoon();
        Due.is("image of none", y.image(), 0);
        y.hermit(0, 0, 1, 0, 1, 5);
        y.heat(1);
        Due.is("restore of one", y.restore(), 1);
        Due.is("heat again", y.count(3), 100);
        Due.is("its store", y.about(0, 5), 5);
    }

    private static void count() {
        HermitsSpoon x = filled();
        int[] counts = {3, 2, 41, 33, 1, 1, 3};
        for (int what = 0; what < counts.length; what++) {
            Due.is("count(" + what + ")", x.count(what), counts[what]);
        }
        Due.is("count(7)", x.count(7), OUTSIDE);
        Due.is("count(-1)", x.count(-1), OUTSIDE);
    }

    private static HermitsSpoon filled() {
        HermitsSpoon x = new HermitsSpoon();
        x.hermit(4, 3, 7, 0, 2, 60);
        x.hermit(3, 2, 8, 1, 3, 4);
        x.hermit(1, 4, 9, 2, 4, 70);
        Due.vow(x, "lx4");
        Due.vow(x, "rt3d");
        x.live(0, 0, 0);
        x.change(0, 2);
        Due.soup(x, 5, 6, 7, 8, 15);
        x.heat(33);
        x.feast(true);
        Due.write(x, "~x1");
        return x;
    }

    private static long folded(long h, long... numbers) {
        for (long number : numbers) {
            h = 31 * h + number;
        }
        return h;
    }

    private static void digest() {
        long start = folded(541, 0, 0, 0, 0, 0);
        HermitsSpoon fresh = new HermitsSpoon();
        Due.is("digest of a new one", fresh.digest(), folded(start, 0, 0, 0, 100, 0, 0, 0));
        Due.vow(fresh, "rt5dx2");
        Due.is("digest of a vow without hermits", fresh.digest(), folded(start, 0, 5, 1, 2, 0, 1, 0, 100, 0, 0, 0));
        HermitsSpoon one = new HermitsSpoon();
        one.hermit(0, 0, 1, 0, 9, 8);
        Due.soup(one, 12);
        Due.vow(one, "lt2");
        Due.write(one, "lt");
        Due.is("digest of one hermit, one vow", one.digest(), folded(541, 0, 0, 1, 0, 9, 8, 0, 12, 0, 0, 0, 0,
                1, 2, 0, 0, 7, 7, 0, 4, 21, 93, 20, 'l', 't', 1, 1, 12, 100, 0, 0, 2));
        HermitsSpoon x = filled();
        long h = 541;
        for (int i = 0; i < 3; i++) {
            for (int what = 0; what <= 6; what++) {
                h = folded(h, x.about(i, what));
            }
        }
        h = folded(h, 5, 6, 7, 8, 15);
        for (int vow = 0; vow < 2; vow++) {
            for (int what = 0; what <= 3; what++) {
                h = folded(h, x.vowTold(vow, what));
            }
            for (int what = 0; what <= 5; what++) {
                h = folded(h, x.day(vow, 0, 0, what));
            }
            h = folded(h, x.least(vow, 0));
        }
        Due.is("digest of all", x.digest(), folded(h, '~', 'x', '1', 3, 2, 41, 33, 1, 1, 3));
    }
}
