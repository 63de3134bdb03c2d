import java.util.Random;

/** All promises: runs of calls, drawn by fixed seeds, against PlainModel; whatever is thrown ends the test. */
public final class RandomRunsTest {
    private static final int RUNS = 400, CALLS = 120;
    private static final String[] TEXTS = {"l", "r", "t", "d", "x", "3", "9", "0", "lt", "ld", "rx2", "lt4dx3", "rt2",
        "ldx9", "rdx1", "lt7", "q", "rt1", "lx4", "rt5dx22", ""};
    private static final int[] ODD = {-1, Integer.MIN_VALUE, Integer.MAX_VALUE, 1023, 1024, 100, 600, 31, 61, 16};

    private final Random random;
    private final int run;
    private final HermitsSpoon x = new HermitsSpoon();
    private final PlainModel m = new PlainModel();

    private RandomRunsTest(int run) {
        this.run = run;
        random = new Random(run);
    }

    public static void main(String[] args) {
        for (int run = 0; run < RUNS; run++) {
            RandomRunsTest test = new RandomRunsTest(run);
            test.furnish();
            for (int i = 0; i < CALLS; i++) {
                test.call(test.random.nextInt(31));
            }
            test.same("digest()", test.x.digest(), test.m.digest());
        }
        Due.end();
    }

    // A number below the bound, or now and then one at or beyond an edge.
    private int draw(int bound) {
        int chance = random.nextInt(40);
        if (chance == 0) {
            return ODD[random.nextInt(ODD.length)];
        }
        return chance == 1 ? bound : bound > 0 ? random.nextInt(bound) : 0;
    }

    private void same(String call, long got, long want) {
        Due.is("run " + run + ": " + call, got, want);
    }

    private void furnish() {
        int hermits = random.nextInt(11);
        for (int h = 0; h < hermits; h++) {
            addHermit();
        }
        int vows = random.nextInt(5);
        for (int v = 0; v < vows; v++) {
            String text = (random.nextBoolean() ? "l" : "r") + (random.nextBoolean() ? "" : "t" + (1 + random.nextInt(9)))
                    + (random.nextBoolean() ? "" : "d") + (random.nextInt(3) > 0 ? "" : "x" + (1 + random.nextInt(9)));
            write(Due.packed(text));
            same("vow()", x.vow(), m.vow());
        }
        int most = random.nextBoolean() ? 100 : 12;
        for (int layer = 0; layer < 5; layer++) {
            int v = random.nextInt(most);
            same("soup(" + layer + ", " + v + ")", x.soup(layer, v), m.soup(layer, v));
        }
    }

    private void addHermit() {
        int kind = draw(5);
        int n = kind == 0 || kind == 2 ? draw(1) : 1 + draw(4);
        int need = 1 + draw(random.nextBoolean() ? 99 : 12);
        int teeth = draw(4);
        int bite = 1 + draw(9);
        int store = draw(100);
        same("hermit(" + kind + ", " + n + ", " + need + ", " + teeth + ", " + bite + ", " + store + ")",
                x.hermit(kind, n, need, teeth, bite, store), m.hermit(kind, n, need, teeth, bite, store));
    }

    private void write(long w) {
        same("letters(" + w + ")", x.letters(w), m.letters(w));
    }

    private void call(int which) {
        if (which < 13) {
            callState(which);
        } else if (which < 20) {
            callDay(which);
        } else {
            callRest(which);
        }
    }

    private void callState(int which) {
        int h = draw(x.count(0));
        int j = draw(x.count(0));
        int what = draw(7);
        int v = draw(100);
        switch (which) {
            case 0 -> write(random.nextInt(9) == 0 ? random.nextLong() : Due.packed(TEXTS[random.nextInt(TEXTS.length)]));
            case 1 -> same("blank()", x.blank(), m.blank());
            case 2 -> same("fault()", x.fault(), m.fault());
            case 3 -> same("vow()", x.vow(), m.vow());
            case 4 -> {
                int vow = draw(x.count(1));
                same("vowTold(" + vow + ", " + what + ")", x.vowTold(vow, what), m.vowTold(vow, what));
            }
            case 5 -> addHermit();
            case 6 -> same("as(" + h + ", " + what + ")", x.as(h, what), m.as(h, what));
            case 7 -> same("about(" + h + ", " + what + ")", x.about(h, what), m.about(h, what));
            case 8 -> same("store(" + h + ", " + v + ")", x.store(h, v), m.store(h, v));
            case 9 -> same("change(" + h + ", " + j + ")", x.change(h, j), m.change(h, j));
            case 10 -> same("soup(" + what + ", " + v + ")", x.soup(what, v), m.soup(what, v));
            case 11 -> {
                int heat = draw(random.nextBoolean() ? 301 : 40);
                same("heat(" + heat + ")", x.heat(heat), m.heat(heat));
            }
            default -> same("feast(" + (v > 50) + ")", x.feast(v > 50), m.feast(v > 50));
        }
    }

    private void callDay(int which) {
        int vow = draw(x.count(1));
        int seat = draw(x.count(0));
        int fasts = random.nextBoolean() ? 0 : draw(1 << x.count(0));
        int h = draw(x.count(0));
        int what = draw(6);
        int k = draw(random.nextBoolean() ? 600 : 40);
        String told = "(vow " + vow + ", seat " + seat + ", fasts " + fasts + ", hermit " + h + ", k " + k + ", " + what + ")";
        switch (which) {
            case 13 -> same("day" + told, x.day(vow, seat, fasts, what), m.day(vow, seat, fasts, what));
            case 14 -> same("meal" + told, x.meal(vow, seat, fasts, h), m.meal(vow, seat, fasts, h));
            case 15 -> same("bite" + told, x.bite(vow, seat, fasts, k, what), m.bite(vow, seat, fasts, k, what));
            case 16 -> same("least" + told, x.least(vow, seat), m.least(vow, seat));
            case 17 -> same("bestStart" + told, x.bestStart(vow), m.bestStart(vow));
            case 18 -> same("bestSwap" + told, x.bestSwap(vow, seat), m.bestSwap(vow, seat));
            default -> same("bestStir" + told, x.bestStir(vow, seat), m.bestStir(vow, seat));
        }
    }

    private void callRest(int which) {
        int vow = draw(x.count(1));
        int seat = draw(x.count(0));
        int fasts = random.nextBoolean() ? 0 : draw(1 << x.count(0));
        int h = draw(x.count(0));
        int what = draw(12);
        int days = 1 + draw(30);
        int turns = 1 + draw(60);
        int left = draw(Math.max(1, x.count(2)));
        String told = "(vow " + vow + ", seat " + seat + ", fasts " + fasts + ", hermit " + h + ", days " + days + ", turns "
                + turns + ", left " + left + ", " + what + ")";
        switch (which) {
            case 20 -> same("live" + told, x.live(vow, seat, fasts), m.live(vow, seat, fasts));
            case 21 -> same("starves" + told, x.starves(vow, seat, h), m.starves(vow, seat, h));
            case 22 -> same("fasting" + told, x.fasting(vow, seat, days), m.fasting(vow, seat, days));
            case 23 -> same("schism" + told, x.schism(seat, what), m.schism(seat, what));
            case 24 -> same("twice" + told, x.twice(vow, seat, turns, left), m.twice(vow, seat, turns, left));
            case 25 -> same("image()", x.image(), m.image());
            case 26 -> same("restore()", x.restore(), m.restore());
            case 27 -> same("count(" + what + ")", x.count(what), m.count(what));
            case 28 -> {
                // A left that some taker explains, so that not all answers are 0.
                int some = x.day(vow, seat, 0, 2);
                same("twice" + told + " " + some, x.twice(vow, seat, 60, some), m.twice(vow, seat, 60, some));
            }
            case 29 -> same("schism" + told, x.schism(seat, 10), m.schism(seat, 10));
            default -> same("digest()", x.digest(), m.digest());
        }
    }
}
