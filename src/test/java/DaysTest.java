/** Promises 22 to 24: days one behind the other, by hand and against days that are lived. */
public final class DaysTest {
    private static final int UNKNOWN = HermitsSpoon.UNKNOWN, OUTSIDE = HermitsSpoon.OUTSIDE, NONE = HermitsSpoon.NONE;

    public static void main(String[] args) {
        live();
        starvesByHand();
        fastingByHand();
        for (int table = 0; table < 80; table++) {
            starvesAsLived(table);
            fastingAsLived(table);
        }
        refusals();
        Due.end();
    }

    private static void live() {
        HermitsSpoon x = new HermitsSpoon();
        x.hermit(0, 0, 10, 0, 5, 3);
        x.hermit(0, 0, 50, 0, 5, 95);
        x.hermit(4, 2, 1, 0, 5, 0);
        Due.vow(x, "l");
        Due.soup(x, 0, 20);
        // Meals from 0: 20 (the fourth bite is 0's again), 10, 10.
        Due.is("live(0, 0, 0)", x.live(0, 0, 0), 0);
        Due.is("store 0: 3 and 20 less 10", x.about(0, 5), 13);
        Due.is("store 1: 99 at most, less 50", x.about(1, 5), 49);
        Due.is("store 2: 10 less 1", x.about(2, 5), 9);
        Due.is("soup stays", x.count(2), 20);
        Due.is("heat stays", x.count(3), 100);
        Due.is("live with all fasting", x.live(0, 0, 7), 2);
        Due.is("store 1 starved", x.about(1, 5), -1);
        Due.is("store 0: 13 less 10", x.about(0, 5), 3);
        Due.is("live with all fasting again", x.live(0, 0, 7), 1);
        Due.is("two starved", x.count(5), 2);
        // Bites of the feeder alone: 10, 10 for 0 (who starved), 10, 10 for 0.
        Due.meals(x, 0, 0, 0, 20, 0, 20);
        Due.is("live of one", x.live(0, 0, 0), 0);
        Due.is("who starved stays so", x.about(0, 5), -1);
        Due.is("store 2: 7 and 20 less 1", x.about(2, 5), 26);
    }

    private static void starvesByHand() {
        HermitsSpoon x = new HermitsSpoon();
        x.hermit(0, 0, 2, 0, 4, 5);
        x.hermit(0, 0, 2, 0, 4, 5);
        x.hermit(0, 0, 2, 0, 4, 1);
        Due.vow(x, "l");
        Due.vow(x, "r");
        Due.soup(x, 4);
        // One meal of 4 a day. By l: 0, 1, 2 on days 1, 2, 3; 2 starves on day 1 from 0 on.
        Due.is("starves(0, 0, 2)", x.starves(0, 0, 2), 1);
        // The spoon that begins at 2 goes on to 0: 0 has 7, 5, 7, 9 ..; 1 has 3, 5, 3, 1, 3, 1, -1.
        Due.is("starves(0, 0, 1)", x.starves(0, 0, 1), 7);
        Due.is("starves(0, 0, 0)", x.starves(0, 0, 0), NONE);
        // By r from 0 on 2 starves on day 1, too; its days are 1's then: 0 has 7, 5, 3, 5, 3, 1, 3, 1, -1.
        Due.is("starves(1, 0, 2)", x.starves(1, 0, 2), 1);
        Due.is("starves(1, 0, 0)", x.starves(1, 0, 0), 9);
        Due.is("starves(1, 0, 1)", x.starves(1, 0, 1), NONE);
        x.live(0, 0, 0);
        Due.is("it has starved", x.starves(0, 0, 2), 0);
        HermitsSpoon y = new HermitsSpoon();
        y.hermit(0, 0, 1, 0, 1, 59);
        Due.vow(y, "l");
        Due.is("starves on day 60", y.starves(0, 0, 0), 60);
        y.store(0, 60);
        Due.is("not in 60 days", y.starves(0, 0, 0), NONE);
    }

    private static void fastingByHand() {
        HermitsSpoon x = new HermitsSpoon();
        x.hermit(0, 0, 1, 0, 4, 1);
        x.hermit(0, 0, 1, 0, 4, 1);
        x.hermit(0, 0, 1, 0, 4, 0);
        Due.vow(x, "l");
        Due.soup(x, 4);
        Due.is("day 1 feeds one: seat 2 must be it", x.fasting(0, 0, 1), 2);
        Due.is("from 2 on nobody need fast", x.fasting(0, 2, 1), 0);
        // From 2, then 0 on day 2, then 1: 2 has 3, 0 has 0 and 3, 1 has 0 and -1.
        Due.is("two days from 2", x.fasting(0, 2, 2), NONE);
        x.store(1, 2);
        Due.is("two days from 2, 1 has more", x.fasting(0, 2, 2), 0);
        Due.is("thirty days from 2", x.fasting(0, 2, 30), 0);
        Due.soup(x, 0);
        Due.is("no soup", x.fasting(0, 0, 1), NONE);
        x.store(0, 9);
        Due.is("live", x.live(0, 0, 0), 4);
        Due.is("who starved before does not count", x.fasting(0, 0, 1), 0);
        HermitsSpoon y = new HermitsSpoon();
        y.hermit(0, 0, 5, 0, 1, 0);
        Due.vow(y, "l");
        Due.is("live of one", y.live(0, 0, 0), 1);
        Due.is("nobody lives", y.fasting(0, 0, 30), 0);
    }

    private static HermitsSpoon table(int number) {
        HermitsSpoon x = new HermitsSpoon();
        java.util.Random random = new java.util.Random(number);
        int hermits = 1 + random.nextInt(5);
        for (int h = 0; h < hermits; h++) {
            int kind = random.nextInt(5);
            int n = kind == 0 || kind == 2 ? 0 : 2 + random.nextInt(3);
            x.hermit(kind, n, 1 + random.nextInt(12), random.nextInt(2), 1 + random.nextInt(9), 20 + random.nextInt(70));
        }
        for (int layer = 0; layer < 5; layer++) {
            x.soup(layer, random.nextInt(4));
        }
        for (int i = 1; i < hermits; i++) {
            x.change(i, random.nextInt(i));
        }
        x.feast(random.nextBoolean());
        Due.vow(x, random.nextBoolean() ? "l" : "rt3");
        return x;
    }

    private static int seatOnDay(HermitsSpoon x, int seat, int day) {
        return Math.floorMod(seat + (x.vowTold(0, 0) == 1 ? day : -day), x.count(0));
    }

    private static void starvesAsLived(int number) {
        HermitsSpoon x = table(number);
        int hermits = x.count(0);
        int seat = number % hermits;
        for (int h = 0; h < hermits; h++) {
            HermitsSpoon y = table(number);
            int due = NONE;
            for (int day = 0; day < 60 && due == NONE; day++) {
                y.live(0, seatOnDay(y, seat, day), 0);
                due = y.about(h, 5) < 0 ? day + 1 : NONE;
            }
            Due.is("starves of " + h + " at table " + number, x.starves(0, seat, h), due);
        }
    }

    private static void fastingAsLived(int number) {
        HermitsSpoon x = table(number);
        int seat = number % x.count(0);
        int days = 1 + number % 30;
        int due = NONE;
        for (int k = 0; k < x.count(0) && due == NONE; k++) {
            due = allLive(table(number), seat, days, k) ? k : NONE;
        }
        long before = x.digest();
        Due.is("fasting at table " + number, x.fasting(0, seat, days), due);
        Due.is("it leaves all stores", x.digest(), before);
    }

    private static boolean allLive(HermitsSpoon y, int seat, int days, int k) {
        for (int day = 0; day < days; day++) {
            int fasts = 0;
            for (int h = 0; h < y.count(0); h++) {
                fasts |= Math.floorMod(y.about(h, 6) - day * k, y.count(0)) < k ? 1 << h : 0;
            }
            if (y.live(0, seatOnDay(y, seat, day), fasts) != 0) {
                return false;
            }
        }
        return true;
    }

    private static void refusals() {
        HermitsSpoon x = new HermitsSpoon();
        Due.vow(x, "l");
        Due.is("fasting without hermits", x.fasting(0, 0, 1), UNKNOWN);
        x.hermit(0, 0, 1, 0, 1, 9);
        int[][] unknown = {{1, 0}, {-1, 0}, {0, 1}, {0, -1}};
        for (int[] u : unknown) {
            Due.is("live: vow, seat", x.live(u[0], u[1], 2), UNKNOWN);
            Due.is("starves: vow, seat", x.starves(u[0], u[1], 0), UNKNOWN);
            Due.is("fasting: vow, seat", x.fasting(u[0], u[1], 0), UNKNOWN);
        }
        Due.is("live: fasts 2", x.live(0, 0, 2), OUTSIDE);
        Due.is("live: fasts -1", x.live(0, 0, -1), OUTSIDE);
        Due.is("starves: hermit 1", x.starves(0, 0, 1), UNKNOWN);
        Due.is("starves: hermit -1", x.starves(0, 0, -1), UNKNOWN);
        Due.is("fasting: days 0", x.fasting(0, 0, 0), OUTSIDE);
        Due.is("fasting: days 31", x.fasting(0, 0, 31), OUTSIDE);
        Due.is("refusals change nothing", x.about(0, 5), 9);
    }
}
