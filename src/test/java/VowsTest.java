/** Promises 1 to 6: a new object, and vows. */
public final class VowsTest {
    public static void main(String[] args) {
        newObject();
        letters();
        blank();
        fault();
        vow();
        vowTold();
        Due.end();
    }

    private static void newObject() {
        HermitsSpoon x = new HermitsSpoon();
        int[] counts = {0, 0, 0, 100, 0, 0, 0};
        for (int what = 0; what < counts.length; what++) {
            Due.is("new: count(" + what + ")", x.count(what), counts[what]);
        }
        Due.is("new: restore()", x.restore(), HermitsSpoon.STATE);
        Due.is("new: about(0, 0)", x.about(0, 0), -1001);
        Due.is("new: vowTold(0, 0)", x.vowTold(0, 0), HermitsSpoon.UNKNOWN);
        for (int layer = 0; layer < 5; layer++) {
            Due.is("new: soup(" + layer + ", 0)", x.soup(layer, 0), 0);
        }
        Due.is("new: feast(false)", x.feast(false), 0);
    }

    private static void letters() {
        HermitsSpoon x = new HermitsSpoon();
        Due.is("letters(l)", x.letters('l'), 1);
        Due.is("letters of nothing", x.letters(0), 1);
        Due.is("letters(1, 126)", x.letters(126 << 8 | 1), 3);
        Due.is("letters(127)", x.letters(127), HermitsSpoon.OUTSIDE);
        Due.is("letters(255)", x.letters(255), HermitsSpoon.OUTSIDE);
        Due.is("letters: the eighth is 128", x.letters(Long.MIN_VALUE | Due.packed("abcdefg")), HermitsSpoon.OUTSIDE);
        Due.is("letters(-1)", x.letters(-1L), HermitsSpoon.OUTSIDE);
        Due.is("letters: one behind a 0", x.letters((long) 'd' << 16 | 'l'), HermitsSpoon.OUTSIDE);
        Due.is("letters: the last behind a 0", x.letters((long) 'd' << 56), HermitsSpoon.OUTSIDE);
        Due.is("letters: refusals change nothing", x.count(6), 3);
        Due.is("letters: eight", x.letters(Due.packed("abcdefgh")), 11);
        Due.is("letters: 19", x.letters(Due.packed("abcdefgh")), HermitsSpoon.FULL);
        Due.is("letters: 17", x.letters(Due.packed("abcdef")), HermitsSpoon.FULL);
        Due.is("letters: 16", x.letters(Due.packed("abcde")), 16);
        Due.is("letters: none more fits", x.letters(0), 16);
        Due.is("letters: one more", x.letters('a'), HermitsSpoon.FULL);
        Due.is("letters: OUTSIDE is told ahead of FULL", x.letters(127), HermitsSpoon.OUTSIDE);
        Due.is("letters: still 16", x.count(6), 16);
    }

    private static void blank() {
        HermitsSpoon x = new HermitsSpoon();
        Due.is("blank of nothing", x.blank(), 0);
        Due.write(x, "lt3");
        Due.is("blank", x.blank(), 3);
        Due.is("blank again", x.blank(), 0);
        Due.is("count(6) behind blank", x.count(6), 0);
        Due.is("what was there does not come back", x.letters('d'), 1);
        Due.is("fault behind blank", x.fault(), 0);
    }

    private static void fault() {
        String[] texts = {"", "l", "r", "t", "L", " l", "lr", "ll", "lt", "lt0", "lt1", "lt9", "lt:", "lt/", "lt10",
            "ltd", "ld", "ldt3", "ldd", "ldx", "ldx0", "ldx1", "lx9", "lx9d", "lx99", "lxt", "lx9t1", "rt5dx2",
            "rt5dx22", "rt5dx2l", "lt3t4", "lt3x4", "rdx", "rx:", "1", "r9"};
        int[] places = {0, 1, 1, 0, 0, 0, 1, 1, 2, 2, 3, 3, 2, 2, 3,
            2, 2, 2, 2, 3, 3, 4, 3, 3, 3, 2, 3, 6,
            6, 6, 3, 5, 3, 2, 0, 1};
        HermitsSpoon x = new HermitsSpoon();
        for (int i = 0; i < texts.length; i++) {
            x.blank();
            Due.write(x, texts[i]);
            Due.is("fault of " + texts[i], x.fault(), places[i]);
            Due.is("fault leaves the page", x.count(6), texts[i].length());
        }
    }

    private static void vow() {
        HermitsSpoon x = new HermitsSpoon();
        String[] none = {"", "t1", "lt", "lt0", "lx", "ldx", "lx0", "lxd", "rdd", "ldt1", "lx1d", "rr", "rt55", "rt5dx2x"};
        for (String text : none) {
            Due.is("vow of " + text, Due.vow(x, text), HermitsSpoon.STATE);
            Due.is("it stays on the page", x.count(6), text.length());
        }
        String[] vows = {"l", "r", "lt1", "rd", "lx9", "rt5dx2"};
        for (int i = 0; i < vows.length; i++) {
            Due.is("vow of " + vows[i], Due.vow(x, vows[i]), i);
            Due.is("the page is empty then", x.count(6), 0);
            Due.is("count(1)", x.count(1), i + 1);
        }
        Due.is("vow: STATE is told ahead of FULL", x.vow(), HermitsSpoon.STATE);
        Due.is("vow: a seventh", Due.vow(x, "ld"), HermitsSpoon.FULL);
        Due.is("vow: the page stays", x.blank(), 2);
        Due.is("vow: still six", x.count(1), 6);
    }

    private static void vowTold() {
        HermitsSpoon x = new HermitsSpoon();
        String[] vows = {"l", "r", "lt9", "rd", "lx1", "rt5dx2"};
        int[][] told = {{1, 0, 0, 0}, {0, 0, 0, 0}, {1, 9, 0, 0}, {0, 0, 1, 0}, {1, 0, 0, 1}, {0, 5, 1, 2}};
        for (String text : vows) {
            Due.vow(x, text);
        }
        for (int i = 0; i < vows.length; i++) {
            for (int what = 0; what < 4; what++) {
                Due.is("vowTold(" + i + ", " + what + ")", x.vowTold(i, what), told[i][what]);
            }
        }
        Due.is("vowTold(6, 0)", x.vowTold(6, 0), HermitsSpoon.UNKNOWN);
        Due.is("vowTold(-1, 9)", x.vowTold(-1, 9), HermitsSpoon.UNKNOWN);
        Due.is("vowTold(0, 4)", x.vowTold(0, 4), HermitsSpoon.OUTSIDE);
        Due.is("vowTold(0, -1)", x.vowTold(0, -1), HermitsSpoon.OUTSIDE);
    }
}
