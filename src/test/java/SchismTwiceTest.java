/** Promises 25 and 26: two spoons, and who took twice, reckoned by hand. */
public final class SchismTwiceTest {
    private static final int UNKNOWN = HermitsSpoon.UNKNOWN, OUTSIDE = HermitsSpoon.OUTSIDE, NONE = HermitsSpoon.NONE;

    public static void main(String[] args) {
        meeting();
        starved();
        beats();
        kinds();
        twice();
        twiceByOtherVows();
        refusals();
        Due.end();
    }

    private static HermitsSpoon hermits(int... bites) {
        HermitsSpoon x = new HermitsSpoon();
        for (int bite : bites) {
            x.hermit(0, 0, 1, 0, bite, 9);
        }
        Due.vow(x, "l");
        return x;
    }

    private static void meeting() {
        HermitsSpoon x = hermits(1, 2, 3, 4);
        Due.schism(x, 0, 0, 0, 0, 0, 0, 0, NONE);
        Due.soup(x, 12);
        // 0: 1 | 2: 3 | (1) | 1: 2 | 2: 3 | 0: 1 | (3) | 3: 2
        Due.schism(x, 0, 8, 0, 2, 2, 6, 2, NONE, NONE, NONE, NONE, NONE, NONE);
        HermitsSpoon y = hermits(1, 2, 3);
        Due.soup(y, 0, 6);
        // 2: 3 | (0) | 0: 1 | 2: 2
        Due.schism(y, 2, 4, 0, 2, 0, 10);
    }

    private static void starved() {
        HermitsSpoon x = hermits(1, 1, 1, 1);
        x.store(1, 0);
        x.live(0, 0, 15);
        Due.soup(x, 6);
        // 0 | 2 | over 1: 2 | over 1: 0 | (3) | 3 | 0; a spoon that stands at 1 is in nobody's way.
        Due.schism(x, 0, 7, 0, 3, 0, 2, 1);
        Due.soup(x, 0);
        for (int h = 0; h < 4; h++) {
            x.store(h, 0);
        }
        x.live(0, 0, 0);
        Due.soup(x, 6);
        Due.schism(x, 0, 0, 6, 0, 0, 0, 0);
    }

    private static void beats() {
        HermitsSpoon x = new HermitsSpoon();
        x.hermit(1, 4, 1, 0, 1, 9);
        Due.soup(x, 99, 99, 99, 99, 99);
        Due.schism(x, 0, 300, 495, 0);
        x.hermit(1, 4, 1, 0, 1, 9);
        // A bite (4 beats) and a meeting (1) by turns; behind more than 80 beats a bite is worth 0.
        Due.schism(x, 0, 120, 435, 9, 8);
    }

    private static void kinds() {
        HermitsSpoon x = new HermitsSpoon();
        x.hermit(3, 2, 1, 0, 1, 9);
        x.hermit(4, 2, 1, 1, 2, 9);
        x.hermit(2, 0, 1, 0, 3, 9);
        Due.soup(x, 0, 0, 0, 0, 10);
        x.feast(true);
        // 0: 1 | (1) | 1: 2 | 0: 1 and 1 | (2) | 2: 3 | 0: 1 | (1) | 1: 1 for 2
        Due.schism(x, 0, 9, 0, 0, 10, 0);
        x.feast(false);
        Due.schism(x, 0, 9, 0, 20, 10, 20);
    }

    private static HermitsSpoon takers() {
        HermitsSpoon x = new HermitsSpoon();
        x.hermit(0, 0, 1, 0, 2, 9);
        x.hermit(3, 1, 1, 0, 1, 9);
        x.hermit(2, 0, 1, 0, 3, 9);
        Due.vow(x, "l");
        Due.vow(x, "ld");
        Due.vow(x, "lx2");
        Due.vow(x, "lt2");
        Due.soup(x, 20);
        return x;
    }

    private static void twice() {
        HermitsSpoon x = takers();
        Due.is("twice(0, 0, 3, 13)", x.twice(0, 0, 3, 13), 1024);
        Due.is("twice(0, 0, 3, 11)", x.twice(0, 0, 3, 11), 1);
        Due.is("twice(0, 0, 3, 12)", x.twice(0, 0, 3, 12), 2);
        Due.is("twice(0, 0, 3, 10)", x.twice(0, 0, 3, 10), 4);
        Due.is("twice(0, 0, 3, 14)", x.twice(0, 0, 3, 14), 0);
        Due.is("twice(0, 0, 1, 18)", x.twice(0, 0, 1, 18), 1024 + 2 + 4);
        Due.is("twice(0, 0, 1, 16)", x.twice(0, 0, 1, 16), 1);
        Due.is("twice(0, 1, 1, 17)", x.twice(0, 1, 1, 17), 2);
        Due.is("twice(0, 0, 60, 0)", x.twice(0, 0, 60, 0), 1024 + 7);
        Due.is("twice(0, 0, 60, 495)", x.twice(0, 0, 60, 495), 0);
    }

    private static void twiceByOtherVows() {
        HermitsSpoon x = takers();
        Due.is("who is skipped: as nobody", x.twice(1, 0, 3, 14), 1024 + 4);
        Due.is("ld: 10", x.twice(1, 0, 3, 10), 1);
        Due.is("ld: 13", x.twice(1, 0, 3, 13), 2);
        // MOST counts bites that are taken twice: the day ends earlier.
        Due.is("lx2: 8", x.twice(2, 0, 5, 8), 1024 + 1 + 4);
        Due.is("lx2: 7", x.twice(2, 0, 5, 7), 2);
        Due.is("lx2: at the end", x.twice(2, 0, 60, 8), 1024 + 1 + 4);
        Due.is("lt2: no bite while one stirs", x.twice(3, 0, 2, 18), 1024 + 2 + 4);
    }

    private static void refusals() {
        HermitsSpoon x = new HermitsSpoon();
        Due.vow(x, "l");
        Due.is("schism without hermits", x.schism(0, 0), UNKNOWN);
        Due.is("twice without hermits", x.twice(0, 0, 1, 0), UNKNOWN);
        x.hermit(0, 0, 1, 0, 1, 9);
        Due.is("schism(1, 12)", x.schism(1, 12), UNKNOWN);
        Due.is("schism(-1, 0)", x.schism(-1, 0), UNKNOWN);
        Due.is("schism(0, 12)", x.schism(0, 12), OUTSIDE);
        Due.is("schism(0, -1)", x.schism(0, -1), OUTSIDE);
        Due.is("schism(0, 9)", x.schism(0, 9), NONE);
        int[][] unknown = {{1, 0}, {-1, 0}, {0, 1}, {0, -1}};
        for (int[] u : unknown) {
            Due.is("twice: vow, seat", x.twice(u[0], u[1], 0, -1), UNKNOWN);
        }
        Due.is("twice: turns 0", x.twice(0, 0, 0, 0), OUTSIDE);
        Due.is("twice: turns 61", x.twice(0, 0, 61, 0), OUTSIDE);
        Due.is("twice: left -1", x.twice(0, 0, 1, -1), OUTSIDE);
        Due.is("twice: left 496", x.twice(0, 0, 1, 496), OUTSIDE);
        Due.is("twice: 60, 495", x.twice(0, 0, 60, 495), 0);
    }
}
