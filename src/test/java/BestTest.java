/** Promises 18 to 21: LEAST by hand, and the best ones against what the other calls tell. */
public final class BestTest {
    private static final int UNKNOWN = HermitsSpoon.UNKNOWN, NONE = HermitsSpoon.NONE;
    private static final String[] WAYS = {"l", "rt4", "ldx3", "rt2x9"};

    public static void main(String[] args) {
        least();
        bestByHand();
        for (int table = 0; table < 60; table++) {
            for (String way : WAYS) {
                bestStart(table, way);
                bestSwap(table, way);
                bestStir(table, way);
            }
        }
        refusals();
        Due.end();
    }

    private static void least() {
        HermitsSpoon x = new HermitsSpoon();
        x.hermit(0, 0, 5, 0, 1, 0);
        x.hermit(0, 0, 1, 0, 2, 9);
        x.hermit(0, 0, 4, 0, 3, 9);
        Due.vow(x, "l");
        Due.vow(x, "r");
        Due.soup(x, 10);
        // Meals by l from 1: 1, 4, 5; by r from 1: 2, 4, 4.
        Due.is("least(0, 1)", x.least(0, 1), -4);
        Due.is("least(1, 1)", x.least(1, 1), -3);
        Due.is("live(0, 1, 0)", x.live(0, 1, 0), 1);
        // Without hermit 0: 2, 3, 2, 3 by turns.
        Due.is("least(0, 1) of two", x.least(0, 1), 2);
        Due.soup(x, 0);
        x.store(1, 0);
        x.store(2, 0);
        Due.is("live(0, 1, 0) of two", x.live(0, 1, 0), 6);
        Due.is("least of nobody", x.least(0, 0), 0);
    }

    private static void bestByHand() {
        HermitsSpoon x = new HermitsSpoon();
        x.hermit(0, 0, 9, 0, 1, 9);
        x.hermit(0, 0, 2, 0, 1, 9);
        x.hermit(0, 0, 2, 0, 9, 9);
        Due.vow(x, "l");
        Due.soup(x, 12);
        // From 0: 2, 1, 9 (least -7); from 1: 1, 2, 9; from 2: 1 or 2, 1 or 0, 9.
        Due.is("least(0, 0)", x.least(0, 0), -7);
        Due.is("least(0, 1)", x.least(0, 1), -8);
        Due.is("least(0, 2)", x.least(0, 2), -8);
        Due.is("bestStart", x.bestStart(0), 0);
        Due.is("bestSwap: from 0 none is better", x.bestSwap(0, 0), NONE);
        Due.is("bestSwap: from 1 the first exchange", x.bestSwap(0, 1), 1);
        HermitsSpoon y = new HermitsSpoon();
        y.hermit(0, 0, 1, 0, 9, 9);
        Due.vow(y, "l");
        Due.vow(y, "lt5");
        Due.is("bestStir without soup", y.bestStir(1, 0), 0);
        // Meals: 0 by t1, 21 by t2 (DayTest tells each bite), 12 by all others.
        Due.soup(y, 12);
        Due.is("bestStir(0, 0)", y.bestStir(0, 0), 2);
        Due.is("bestStir(1, 0)", y.bestStir(1, 0), 2);
    }

    private static HermitsSpoon table(int number, String way) {
        HermitsSpoon x = new HermitsSpoon();
        java.util.Random random = new java.util.Random(number);
        int hermits = 1 + random.nextInt(6);
        for (int h = 0; h < hermits; h++) {
            int kind = random.nextInt(5);
            int n = kind == 0 || kind == 2 ? 0 : 2 + random.nextInt(3);
            x.hermit(kind, n, 1 + random.nextInt(40), random.nextInt(2), 1 + random.nextInt(9), random.nextInt(99));
        }
        for (int layer = 0; layer < 5; layer++) {
            x.soup(layer, random.nextInt(25));
        }
        x.heat(random.nextInt(80));
        x.feast(random.nextBoolean());
        Due.vow(x, way);
        if (number % 3 == 0) {
            x.store(0, 0);
            x.live(0, 0, 1);
        }
        return x;
    }

    private static int leastByMeals(HermitsSpoon x, int seat) {
        int least = Integer.MAX_VALUE;
        for (int h = 0; h < x.count(0); h++) {
            if (x.about(h, 5) >= 0) {
                least = Math.min(least, x.meal(0, seat, 0, h) - x.about(h, 2));
            }
        }
        return least == Integer.MAX_VALUE ? 0 : least;
    }

    private static void bestStart(int number, String way) {
        HermitsSpoon x = table(number, way);
        int best = 0;
        for (int seat = 0; seat < x.count(0); seat++) {
            Due.is("least at table " + number + " by " + way, x.least(0, seat), leastByMeals(x, seat));
            if (leastByMeals(x, seat) > leastByMeals(x, best)) {
                best = seat;
            }
        }
        Due.is("bestStart at table " + number + " by " + way, x.bestStart(0), best);
    }

    private static void bestSwap(int number, String way) {
        HermitsSpoon x = table(number, way);
        int seat = x.count(0) / 2;
        int greatest = leastByMeals(x, seat);
        int best = NONE;
        for (int i = 0; i < x.count(0); i++) {
            for (int j = i + 1; j < x.count(0); j++) {
                x.change(i, j);
                int least = leastByMeals(x, seat);
                x.change(i, j);
                if (least > greatest) {
                    greatest = least;
                    best = 16 * i + j;
                }
            }
        }
        long before = x.digest();
        Due.is("bestSwap at table " + number + " by " + way, x.bestSwap(0, seat), best);
        Due.is("it leaves all seats", x.digest(), before);
    }

    private static void bestStir(int number, String way) {
        HermitsSpoon x = table(number, way);
        int seat = x.count(0) / 2;
        String rest = way.substring(1).replaceAll("t.", "");
        int greatest = Integer.MIN_VALUE;
        int best = 0;
        for (int stirring = 0; stirring <= 9; stirring++) {
            String other = way.charAt(0) + (stirring == 0 ? "" : "t" + stirring) + rest;
            int least = stirredLeast(number, way, other, seat);
            if (least > greatest) {
                greatest = least;
                best = stirring;
            }
        }
        Due.is("bestStir at table " + number + " by " + way, x.bestStir(0, seat), best);
    }

    // The same table (whoever starved there by its own vow), with another vow beside the first.
    private static int stirredLeast(int number, String way, String other, int seat) {
        HermitsSpoon y = table(number, way);
        int vow = Due.vow(y, other);
        return y.least(vow, seat);
    }

    private static void refusals() {
        HermitsSpoon x = new HermitsSpoon();
        Due.is("bestStart without a vow", x.bestStart(0), UNKNOWN);
        Due.vow(x, "l");
        Due.is("bestStart without hermits", x.bestStart(0), HermitsSpoon.STATE);
        Due.is("bestStart(1)", x.bestStart(1), UNKNOWN);
        Due.is("bestStart(-1)", x.bestStart(-1), UNKNOWN);
        Due.is("least without hermits", x.least(0, 0), -1001);
        x.hermit(0, 0, 1, 0, 1, 9);
        int[][] unknown = {{1, 0}, {-1, 0}, {0, 1}, {0, -1}};
        for (int[] u : unknown) {
            Due.is("least: vow, seat", x.least(u[0], u[1]), -1001);
            Due.is("bestSwap: vow, seat", x.bestSwap(u[0], u[1]), UNKNOWN);
            Due.is("bestStir: vow, seat", x.bestStir(u[0], u[1]), UNKNOWN);
        }
        Due.is("bestSwap of one", x.bestSwap(0, 0), NONE);
    }
}
