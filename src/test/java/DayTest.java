/** Promises 15 to 17: each mouthful of a day, reckoned by hand. */
public final class DayTest {
    private static final int UNKNOWN = HermitsSpoon.UNKNOWN, OUTSIDE = HermitsSpoon.OUTSIDE, NONE = HermitsSpoon.NONE;

    public static void main(String[] args) {
        ways();
        stirring();
        skipping();
        greedy();
        feederAndHeat();
        feast();
        ends();
        refusals();
        Due.end();
    }

    private static void ways() {
        HermitsSpoon x = new HermitsSpoon();
        x.hermit(0, 0, 1, 0, 1, 9);
        x.hermit(0, 0, 1, 0, 2, 9);
        x.hermit(0, 0, 1, 0, 3, 9);
        Due.vow(x, "l");
        Due.vow(x, "r");
        Due.soup(x, 10);
        Due.day(x, 0, 1, 0, 5, 5, 0, 5, 10, 95);
        Due.meals(x, 0, 1, 0, 1, 4, 5);
        Due.day(x, 1, 1, 0, 6, 6, 0, 6, 10, 94);
        Due.meals(x, 1, 1, 0, 2, 4, 4);
        Due.day(x, 0, 1, 2, 5, 5, 0, 5, 10, 95);
        Due.meals(x, 0, 1, 2, 2, 0, 8);
        Due.day(x, 0, 1, 7, 0, 0, 10, 0, 0, 100);
        Due.bite(x, 0, 1, 0, 0, 1, 1, 0, 2, 2);
        Due.bite(x, 0, 1, 0, 4, 2, 2, 0, 2, 2);
        Due.bite(x, 0, 1, 0, 5, NONE, NONE, NONE, NONE, NONE);
        Due.is("a day leaves the soup", x.count(2), 10);
        Due.is("a day leaves the heat", x.count(3), 100);
        x.change(1, 2);
        Due.meals(x, 0, 1, 0, 1, 3, 6);
        Due.soup(x, 2, 2);
        Due.bite(x, 0, 2, 0, 1, 0, 0, 1, 1, 2);
        Due.bite(x, 0, 2, 0, 2, 2, 2, 1, 1, 2);
    }

    private static void stirring() {
        HermitsSpoon x = new HermitsSpoon();
        x.hermit(0, 0, 1, 0, 9, 9);
        Due.vow(x, "lt2");
        Due.vow(x, "lt1");
        Due.vow(x, "lt9");
        Due.soup(x, 12);
        Due.day(x, 0, 0, 0, 7, 7, 0, 4, 21, 93);
        Due.bite(x, 0, 0, 0, 1, 0, 0, 2, 1, 3);
        Due.bite(x, 0, 0, 0, 2, 0, 0, 3, 1, 4);
        Due.bite(x, 0, 0, 0, 3, 0, 0, 4, 1, 5);
        Due.day(x, 1, 0, 0, 300, 300, 12, 0, 0, 0);
        Due.day(x, 2, 0, 0, 2, 2, 0, 2, 12, 98);
        Due.soup(x, 0, 0, 0, 0, 13);
        // 9 of layer 4; then 4 are shared out to the layers 1 to 4.
        Due.bite(x, 0, 0, 0, 0, 0, 0, 4, 9, 45);
        Due.bite(x, 0, 0, 0, 1, 0, 0, 1, 1, 2);
    }

    private static void skipping() {
        HermitsSpoon x = new HermitsSpoon();
        x.hermit(0, 0, 1, 0, 5, 9);
        x.hermit(2, 0, 1, 0, 5, 0);
        Due.soup(x, 0, 30);
        Due.vow(x, "l");
        Due.vow(x, "ld");
        Due.vow(x, "lx1");
        Due.vow(x, "ldx2");
        Due.meals(x, 0, 1, 0, 30, 30);
        Due.day(x, 1, 1, 0, 6, 6, 0, 6, 60, 94);
        Due.meals(x, 1, 1, 0, 60, 0);
        Due.day(x, 2, 1, 0, 2, 2, 20, 2, 20, 98);
        Due.day(x, 3, 1, 0, 2, 2, 20, 2, 20, 98);
        Due.day(x, 1, 0, 1, 0, 0, 30, 0, 0, 100);
        Due.is("live(1, 0, 0): the deaf one starves", x.live(1, 0, 0), 2);
        Due.meals(x, 0, 1, 0, 60, 0);
        Due.day(x, 0, 1, 1, 0, 0, 30, 0, 0, 100);
    }

    private static void greedy() {
        HermitsSpoon x = new HermitsSpoon();
        x.hermit(3, 2, 1, 0, 2, 9);
        Due.vow(x, "lt3");
        Due.vow(x, "lx3");
        Due.soup(x, 20);
        Due.day(x, 0, 0, 0, 13, 13, 0, 13, 39, 87);
        Due.bite(x, 0, 0, 0, 4, 0, 0, 1, 2, 4);
        Due.bite(x, 0, 0, 0, 5, 0, 0, 1, 1, 2);
        Due.bite(x, 0, 0, 0, 12, 0, 0, 4, 1, 5);
        Due.day(x, 1, 0, 0, 2, 2, 14, 3, 6, 98);
        HermitsSpoon y = new HermitsSpoon();
        y.hermit(3, 1, 1, 0, 1, 9);
        Due.vow(y, "lx3");
        Due.soup(y, 10);
        // MOST is looked at when the spoon comes: the second bite of a turn is taken.
        Due.day(y, 0, 0, 0, 2, 2, 6, 4, 4, 98);
        Due.soup(y, 1);
        Due.day(y, 0, 0, 0, 1, 1, 0, 1, 1, 99);
    }

    private static HermitsSpoon feeding() {
        HermitsSpoon x = new HermitsSpoon();
        x.hermit(0, 0, 1, 0, 4, 9);
        x.hermit(1, 3, 1, 1, 4, 9);
        x.hermit(4, 2, 1, 2, 4, 9);
        Due.vow(x, "l");
        Due.vow(x, "r");
        Due.soup(x, 0, 0, 0, 0, 40);
        x.heat(22);
        return x;
    }

    private static void feederAndHeat() {
        HermitsSpoon x = feeding();
        Due.day(x, 0, 0, 0, 10, 19, 0, 10, 120, 3);
        Due.meals(x, 0, 0, 0, 60, 40, 20);
        Due.bite(x, 0, 0, 0, 1, 1, 1, 4, 4, 20);
        Due.bite(x, 0, 0, 0, 2, 2, 2, 4, 4, 10);
        Due.bite(x, 0, 0, 0, 5, 2, 0, 4, 4, 10);
        // Who fasts is fed.
        Due.day(x, 0, 0, 1, 10, 25, 0, 10, 110, 0);
        Due.meals(x, 0, 0, 1, 20, 60, 30);
        // The next seat is the same by either way.
        Due.day(x, 1, 2, 0, 10, 20, 0, 10, 120, 2);
        Due.meals(x, 1, 2, 0, 50, 40, 30);
        x.heat(0);
        Due.soup(x, 3, 0, 0, 0, 0);
        Due.bite(x, 0, 0, 0, 0, 0, 0, 0, 3, 1);
        HermitsSpoon y = new HermitsSpoon();
        y.hermit(4, 2, 1, 0, 3, 9);
        Due.vow(y, "l");
        Due.soup(y, 0, 9);
        Due.day(y, 0, 0, 0, 3, 6, 0, 3, 18, 94);
        Due.meals(y, 0, 0, 0, 18);
    }

    private static void feast() {
        HermitsSpoon x = feeding();
        x.feast(true);
        Due.day(x, 0, 0, 0, 10, 19, 0, 10, 60, 3);
        Due.meals(x, 0, 0, 0, 0, 40, 20);
        Due.bite(x, 0, 0, 0, 5, 2, 0, 4, 4, 0);
        x.change(0, 1);
        // Now the feeder's second bites are for one with teeth: 20, 18 is lukewarm from then on.
        Due.bite(x, 0, 0, 0, 5, 2, 1, 4, 4, 10);
        Due.soup(x, 0, 0, 0, 40, 0);
        Due.bite(x, 0, 1, 0, 0, 0, 0, 3, 4, 16);
    }

    private static void ends() {
        HermitsSpoon x = new HermitsSpoon();
        x.hermit(1, 4, 1, 0, 1, 9);
        x.hermit(1, 3, 1, 0, 1, 9);
        Due.vow(x, "l");
        Due.day(x, 0, 0, 0, 0, 0, 0, 0, 0, 100);
        Due.soup(x, 99, 99, 99, 99, 99);
        x.heat(300);
        // Behind more than 280 beats 1 is worth 0, and the hundredth bite (from layer 1) 1.
        Due.day(x, 0, 0, 0, 86, 301, 495 - 86, 86, 81, 0);
        Due.day(x, 0, 0, 2, 75, 300, 495 - 75, 75, 71, 0);
        Due.day(x, 0, 0, 1, 100, 300, 495 - 100, 100, 95, 0);
        HermitsSpoon y = new HermitsSpoon();
        y.hermit(3, 1, 1, 0, 1, 9);
        Due.vow(y, "l");
        Due.soup(y, 99, 99, 99, 99, 99);
        Due.day(y, 0, 0, 0, 248, 248, 0, 495);
        Due.bite(y, 0, 0, 0, 494, 0, 0, 4, 1, 2);
        Due.bite(y, 0, 0, 0, 599, NONE);
    }

    private static void refusals() {
        HermitsSpoon x = new HermitsSpoon();
        Due.vow(x, "l");
        Due.is("day without hermits", x.day(0, 0, 0, 0), UNKNOWN);
        x.hermit(0, 0, 1, 0, 1, 9);
        x.hermit(0, 0, 1, 0, 1, 9);
        int[][] unknown = {{1, 0}, {-1, 0}, {0, 2}, {0, -1}};
        for (int[] u : unknown) {
            Due.is("day: vow, seat", x.day(u[0], u[1], 4, 6), UNKNOWN);
            Due.is("meal: vow, seat", x.meal(u[0], u[1], 4, 0), UNKNOWN);
            Due.is("bite: vow, seat", x.bite(u[0], u[1], 4, 600, 5), UNKNOWN);
        }
        Due.is("meal: hermit 2", x.meal(0, 0, 4, 2), UNKNOWN);
        Due.is("meal: hermit -1", x.meal(0, 0, 4, -1), UNKNOWN);
        int[] fasts = {4, -1, Integer.MIN_VALUE, 1 << 10};
        for (int f : fasts) {
            Due.is("day: fasts", x.day(0, 0, f, 0), OUTSIDE);
            Due.is("meal: fasts", x.meal(0, 0, f, 0), OUTSIDE);
            Due.is("bite: fasts", x.bite(0, 0, f, 0, 0), OUTSIDE);
        }
        Due.is("day: what 6", x.day(0, 0, 3, 6), OUTSIDE);
        Due.is("day: what -1", x.day(0, 0, 3, -1), OUTSIDE);
        Due.is("bite: k 600", x.bite(0, 0, 0, 600, 0), OUTSIDE);
        Due.is("bite: k -1", x.bite(0, 0, 0, -1, 0), OUTSIDE);
        Due.is("bite: what 5", x.bite(0, 0, 0, 599, 5), OUTSIDE);
        Due.is("bite: what -1", x.bite(0, 0, 0, 0, -1), OUTSIDE);
    }
}
