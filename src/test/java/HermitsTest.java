/** Promises 7 to 14: hermits, soup. */
public final class HermitsTest {
    private static final int UNKNOWN = HermitsSpoon.UNKNOWN, OUTSIDE = HermitsSpoon.OUTSIDE;

    public static void main(String[] args) {
        hermit();
        as();
        about();
        store();
        change();
        soup();
        heat();
        feast();
        Due.end();
    }

    private static HermitsSpoon five() {
        HermitsSpoon x = new HermitsSpoon();
        x.hermit(0, 0, 5, 0, 1, 10);
        x.hermit(1, 2, 6, 1, 2, 11);
        x.hermit(2, 0, 7, 2, 3, 12);
        x.hermit(3, 1, 8, 3, 4, 13);
        x.hermit(4, 4, 9, 0, 5, 14);
        return x;
    }

    private static void hermit() {
        int[][] outside = {{-1, 0, 1, 0, 1, 0}, {5, 2, 1, 0, 1, 0}, {0, 1, 1, 0, 1, 0}, {0, -1, 1, 0, 1, 0},
            {1, 1, 1, 0, 1, 0}, {1, 5, 1, 0, 1, 0}, {1, 0, 1, 0, 1, 0}, {2, 1, 1, 0, 1, 0}, {3, 0, 1, 0, 1, 0},
            {3, 5, 1, 0, 1, 0}, {4, 1, 1, 0, 1, 0}, {4, 5, 1, 0, 1, 0}, {0, 0, 0, 0, 1, 0}, {0, 0, 100, 0, 1, 0},
            {0, 0, 1, -1, 1, 0}, {0, 0, 1, 4, 1, 0}, {0, 0, 1, 0, 0, 0}, {0, 0, 1, 0, 10, 0}, {0, 0, 1, 0, 1, -1},
            {0, 0, 1, 0, 1, 100}};
        int[][] inside = {{0, 0, 1, 0, 1, 0}, {0, 0, 99, 3, 9, 99}, {1, 2, 1, 0, 1, 0}, {1, 4, 1, 0, 1, 0},
            {2, 0, 1, 0, 1, 0}, {3, 1, 1, 0, 1, 0}, {3, 4, 1, 0, 1, 0}, {4, 2, 1, 0, 1, 0}, {4, 4, 1, 0, 1, 0},
            {4, 3, 50, 1, 5, 50}};
        HermitsSpoon x = new HermitsSpoon();
        refuse(x, outside);
        Due.is("refusals change nothing", x.count(0), 0);
        for (int i = 0; i < inside.length; i++) {
            int[] h = inside[i];
            Due.is("hermit " + i, x.hermit(h[0], h[1], h[2], h[3], h[4], h[5]), i);
            for (int what = 0; what < 6; what++) {
                Due.is("about(" + i + ", " + what + ")", x.about(i, what), h[what]);
            }
            Due.is("its seat", x.about(i, 6), i);
        }
        Due.is("an eleventh", x.hermit(0, 0, 1, 0, 1, 0), HermitsSpoon.FULL);
        refuse(x, outside);
        Due.is("still ten", x.count(0), 10);
    }

    private static void refuse(HermitsSpoon x, int[][] outside) {
        for (int[] h : outside) {
            Due.is("hermit(" + java.util.Arrays.toString(h) + ")", x.hermit(h[0], h[1], h[2], h[3], h[4], h[5]), OUTSIDE);
        }
    }

    private static void as() {
        HermitsSpoon x = five();
        boolean[][] is = {{true, false, false, false, false}, {true, true, false, false, false},
            {true, false, true, false, false}, {true, false, false, true, false}, {true, true, false, false, true}};
        for (int h = 0; h < 5; h++) {
            for (int kind = 0; kind < 5; kind++) {
                Due.is("as(" + h + ", " + kind + ")", x.as(h, kind), is[h][kind] ? h : HermitsSpoon.NONE);
            }
        }
        Due.is("as(5, 9)", x.as(5, 9), UNKNOWN);
        Due.is("as(-1, 0)", x.as(-1, 0), UNKNOWN);
        Due.is("as(0, 5)", x.as(0, 5), OUTSIDE);
        Due.is("as(0, -1)", x.as(0, -1), OUTSIDE);
    }

    private static void about() {
        HermitsSpoon x = five();
        int[] told = {4, 4, 9, 0, 5, 14, 4};
        for (int what = 0; what < told.length; what++) {
            Due.is("about(4, " + what + ")", x.about(4, what), told[what]);
        }
        Due.is("about(5, 9)", x.about(5, 9), -1001);
        Due.is("about(-1, 0)", x.about(-1, 0), -1001);
        Due.is("about(0, 7)", x.about(0, 7), -1002);
        Due.is("about(0, -1)", x.about(0, -1), -1002);
    }

    private static void store() {
        HermitsSpoon x = five();
        Due.is("store(4, 0)", x.store(4, 0), 14);
        Due.is("store(4, 99)", x.store(4, 99), 0);
        Due.is("about(4, 5)", x.about(4, 5), 99);
        Due.is("store(4, 100)", x.store(4, 100), -1002);
        Due.is("store(4, -1)", x.store(4, -1), -1002);
        Due.is("store(5, -1)", x.store(5, -1), -1001);
        Due.is("store(-1, 0)", x.store(-1, 0), -1001);
        Due.is("refusals change nothing", x.about(4, 5), 99);
        Due.vow(x, "l");
        x.store(0, 0);
        x.live(0, 0, 0);
        Due.is("who starved has -1", x.about(0, 5), -1);
        Due.is("it lives again", x.store(0, 3), -1);
        Due.is("nobody starved then", x.count(5), 0);
    }

    private static void change() {
        HermitsSpoon x = five();
        Due.is("change(1, 4)", x.change(1, 4), 4);
        Due.is("change(0, 1)", x.change(0, 1), 4);
        int[] seats = {1, 4, 2, 3, 0};
        for (int h = 0; h < 5; h++) {
            Due.is("about(" + h + ", 6)", x.about(h, 6), seats[h]);
        }
        Due.is("change(2, 2)", x.change(2, 2), UNKNOWN);
        Due.is("change(0, 5)", x.change(0, 5), UNKNOWN);
        Due.is("change(5, 0)", x.change(5, 0), UNKNOWN);
        Due.is("change(-1, 0)", x.change(-1, 0), UNKNOWN);
        Due.is("change(0, -1)", x.change(0, -1), UNKNOWN);
        Due.is("a newcomer sits behind all", x.hermit(0, 0, 1, 0, 1, 0), 5);
        Due.is("its seat", x.about(5, 6), 5);
        Due.is("nobody else moved", x.about(4, 6), 0);
    }

    private static void soup() {
        HermitsSpoon x = new HermitsSpoon();
        for (int layer = 0; layer < 5; layer++) {
            Due.is("soup(" + layer + ", ..)", x.soup(layer, 95 + layer), 0);
        }
        Due.is("soup(4, 0)", x.soup(4, 0), 99);
        Due.is("soup(0, 1)", x.soup(0, 1), 95);
        Due.is("soup(5, 100)", x.soup(5, 100), UNKNOWN);
        Due.is("soup(-1, 0)", x.soup(-1, 0), UNKNOWN);
        Due.is("soup(0, 100)", x.soup(0, 100), OUTSIDE);
        Due.is("soup(0, -1)", x.soup(0, -1), OUTSIDE);
        Due.is("soup in all", x.count(2), 1 + 96 + 97 + 98);
    }

    private static void heat() {
        HermitsSpoon x = new HermitsSpoon();
        Due.is("heat(300)", x.heat(300), 100);
        Due.is("heat(0)", x.heat(0), 300);
        Due.is("heat(301)", x.heat(301), OUTSIDE);
        Due.is("heat(-1)", x.heat(-1), OUTSIDE);
        Due.is("heat(7)", x.heat(7), 0);
        Due.is("count(3)", x.count(3), 7);
    }

    private static void feast() {
        HermitsSpoon x = new HermitsSpoon();
        Due.is("feast(true)", x.feast(true), 0);
        Due.is("feast(true) again", x.feast(true), 1);
        Due.is("count(4)", x.count(4), 1);
        Due.is("feast(false)", x.feast(false), 1);
        Due.is("count(4) then", x.count(4), 0);
    }
}
