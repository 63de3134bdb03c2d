/** Promises 1 to 6: each sentence of the document that names a boundary, with a test of its own. */
public final class VowEdgesTest {
    private static final int UNKNOWN = HermitsSpoon.UNKNOWN, OUTSIDE = HermitsSpoon.OUTSIDE, STATE = HermitsSpoon.STATE;
    private static final int FULL = HermitsSpoon.FULL;

    public static void main(String[] args) throws IllegalAccessException {
        Edges.run(VowEdgesTest.class, 1, 6);
    }

    // ---- "No HERMITS, no VOWS, no SOUP."

    static void promise01_nothingIsThere() {
        HermitsSpoon x = new HermitsSpoon();
        int[] counts = {0, 0, 0, 100, 0, 0, 0};
        for (int what = 0; what < counts.length; what++) {
            Due.is("count(" + what + ")", x.count(what), counts[what]);
        }
        Due.is("fault()", x.fault(), 0);
        Due.is("blank()", x.blank(), 0);
    }

    static void promise01_noNumberNamesAnything() {
        HermitsSpoon x = new HermitsSpoon();
        Due.refused(x, "vowTold(0, 0)", () -> x.vowTold(0, 0), UNKNOWN);
        Due.refused(x, "as(0, 0)", () -> x.as(0, 0), UNKNOWN);
        Due.refused(x, "about(0, 0)", () -> x.about(0, 0), -1001);
        Due.refused(x, "store(0, 0)", () -> x.store(0, 0), -1001);
        Due.refused(x, "change(0, 1)", () -> x.change(0, 1), UNKNOWN);
        Due.refused(x, "day(0, 0, 0, 0)", () -> x.day(0, 0, 0, 0), UNKNOWN);
        Due.refused(x, "meal(0, 0, 0, 0)", () -> x.meal(0, 0, 0, 0), UNKNOWN);
        Due.refused(x, "bite(0, 0, 0, 0, 0)", () -> x.bite(0, 0, 0, 0, 0), UNKNOWN);
        Due.refused(x, "least(0, 0)", () -> x.least(0, 0), -1001);
        Due.refused(x, "bestStart(0)", () -> x.bestStart(0), UNKNOWN);
        Due.refused(x, "bestSwap(0, 0)", () -> x.bestSwap(0, 0), UNKNOWN);
        Due.refused(x, "bestStir(0, 0)", () -> x.bestStir(0, 0), UNKNOWN);
        Due.refused(x, "live(0, 0, 0)", () -> x.live(0, 0, 0), UNKNOWN);
        Due.refused(x, "starves(0, 0, 0)", () -> x.starves(0, 0, 0), UNKNOWN);
        Due.refused(x, "fasting(0, 0, 1)", () -> x.fasting(0, 0, 1), UNKNOWN);
        Due.refused(x, "schism(0, 0)", () -> x.schism(0, 0), UNKNOWN);
        Due.refused(x, "twice(0, 0, 1, 0)", () -> x.twice(0, 0, 1, 0), UNKNOWN);
        Due.refused(x, "restore()", x::restore, STATE);
        Due.refused(x, "vow()", x::vow, STATE);
    }

    static void promise01_layersAreEmptyAtFirst() {
        HermitsSpoon x = new HermitsSpoon();
        for (int layer = 0; layer < 5; layer++) {
            Due.is("soup(" + layer + ", 1)", x.soup(layer, 1), 0);
        }
    }

    static void promise01_heatIs100AtFirst() {
        Due.is("heat(0)", new HermitsSpoon().heat(0), 100);
    }

    static void promise01_itIsNoFeastAtFirst() {
        Due.is("feast(true)", new HermitsSpoon().feast(true), 0);
    }

    static void promise01_objectsHaveNothingInCommon() {
        HermitsSpoon one = new HermitsSpoon();
        HermitsSpoon other = new HermitsSpoon();
        long asNew = other.digest();
        one.hermit(0, 0, 1, 0, 1, 0);
        Due.soup(one, 1, 2, 3, 4, 5);
        Due.vow(one, "lt3");
        Due.write(one, "rx");
        one.heat(7);
        one.feast(true);
        one.image();
        Due.is("the other's digest()", other.digest(), asNew);
        Due.is("the other's restore()", other.restore(), STATE);
    }

    // ---- "Letters come behind THE PAGE, up to eight, .. the lowest byte first, until a byte that is 0"

    static void promise02_upToEightComeAtOnce() {
        for (int many = 0; many <= 8; many++) {
            Due.is(many + " letters", new HermitsSpoon().letters(Due.packed("rt5dx2ab".substring(0, many))), many);
        }
    }

    static void promise02_theLowestByteIsTheFirst() {
        HermitsSpoon x = new HermitsSpoon();
        Due.is("letters: 6C 74 33, the lowest first", x.letters(0x33746CL), 3);
        Due.is("vow()", x.vow(), 0);
        Due.is("TURNS", x.vowTold(0, 1), 3);
        Due.is("letters: 33 74 6C, the lowest first", x.letters(0x6C7433L), 3);
        Due.is("fault()", x.fault(), 0);
    }

    static void promise02_zeroBringsNone() {
        HermitsSpoon x = new HermitsSpoon();
        Due.is("letters(0) of an empty page", x.letters(0), 0);
        x.letters('l');
        Due.is("letters(0) of one letter", x.letters(0), 1);
    }

    static void promise02_theyComeBehindThePage() {
        HermitsSpoon x = new HermitsSpoon();
        Due.is("l", x.letters('l'), 1);
        Due.is("d", x.letters('d'), 2);
        Due.is("x9", x.letters(Due.packed("x9")), 4);
        Due.is("vow()", x.vow(), 0);
        Due.is("MOST", x.vowTold(0, 3), 9);
    }

    // ---- "OUTSIDE: a byte above 126, or one behind a 0 that is not 0"

    static void promise02_bytesOf1To126AreTaken() {
        HermitsSpoon x = new HermitsSpoon();
        for (int code = 1; code <= 126; code++) {
            Due.is("letters(" + code + ")", x.letters(code), 1);
            x.blank();
        }
        Due.is("eight of 126", x.letters(0x7E7E7E7E7E7E7E7EL), 8);
        Due.is("eight of 1", x.letters(0x0101010101010101L), 16);
    }

    static void promise02_aByteAbove126IsOutsideInEachPlace() {
        HermitsSpoon x = new HermitsSpoon();
        x.letters('r');
        int[] codes = {127, 128, 129, 200, 254, 255};
        for (int code : codes) {
            for (int place = 0; place < 8; place++) {
                long ahead = Due.packed("abcdefgh".substring(0, place));
                long w = ahead | (long) code << 8 * place;
                Due.refused(x, code + " in place " + place, () -> x.letters(w), OUTSIDE);
            }
        }
    }

    static void promise02_aByteAbove126WithOthersBehindIt() {
        HermitsSpoon x = new HermitsSpoon();
        Due.refused(x, "127 first of eight", () -> x.letters(0x6161616161616161L & ~255L | 127), OUTSIDE);
        Due.refused(x, "-1", () -> x.letters(-1L), OUTSIDE);
        Due.refused(x, "the least long", () -> x.letters(Long.MIN_VALUE), OUTSIDE);
        Due.refused(x, "the greatest long", () -> x.letters(Long.MAX_VALUE), OUTSIDE);
    }

    static void promise02_aByteBehindAZeroIsOutsideInEachPlace() {
        HermitsSpoon x = new HermitsSpoon();
        x.letters('r');
        for (int zero = 0; zero < 7; zero++) {
            for (int place = zero + 1; place < 8; place++) {
                long w = Due.packed("abcdefgh".substring(0, zero)) | 1L << 8 * place;
                Due.refused(x, "a 0 in place " + zero + ", a 1 in place " + place, () -> x.letters(w), OUTSIDE);
            }
        }
    }

    // ---- "FULL: above 16"

    private static HermitsSpoon pageOf(int many) {
        HermitsSpoon x = new HermitsSpoon();
        Due.write(x, "lt1dx1~abcdefghi".substring(0, many));
        return x;
    }

    static void promise02_sixteenFit() {
        Due.is("8 behind 8", pageOf(8).letters(Due.packed("abcdefgh")), 16);
        Due.is("1 behind 15", pageOf(15).letters('a'), 16);
        Due.is("0 behind 16", pageOf(16).letters(0), 16);
    }

    static void promise02_seventeenAreFullAndNoneOfThemComes() {
        for (int more = 1; more <= 8; more++) {
            HermitsSpoon x = pageOf(17 - more);
            long w = Due.packed("abcdefgh".substring(0, more));
            Due.refused(x, more + " behind " + (17 - more), () -> x.letters(w), FULL);
        }
        HermitsSpoon x = pageOf(16);
        Due.refused(x, "8 behind 16", () -> x.letters(Due.packed("abcdefgh")), FULL);
    }

    static void promise02_outsideIsToldAheadOfFull() {
        HermitsSpoon x = pageOf(16);
        Due.refused(x, "letters(127)", () -> x.letters(127), OUTSIDE);
        Due.refused(x, "a 1 behind a 0", () -> x.letters(256), OUTSIDE);
    }

    // ---- "THE PAGE is empty: how many letters it had."

    static void promise03_anEmptyPageHadNone() {
        HermitsSpoon x = new HermitsSpoon();
        Due.is("blank()", x.blank(), 0);
        Due.is("blank() again", x.blank(), 0);
    }

    static void promise03_aFullPageHadSixteenAndTakesSixteenAgain() {
        HermitsSpoon x = pageOf(16);
        Due.is("blank()", x.blank(), 16);
        Due.is("count(6)", x.count(6), 0);
        Due.is("eight", x.letters(Due.packed("abcdefgh")), 8);
        Due.is("sixteen", x.letters(Due.packed("abcdefgh")), 16);
        Due.refused(x, "one more", () -> x.letters('a'), FULL);
    }

    static void promise03_behindAVowThePageHasNone() {
        HermitsSpoon x = new HermitsSpoon();
        Due.vow(x, "l");
        Due.is("blank()", x.blank(), 0);
        Due.is("the vow stays", x.count(1), 1);
    }

    static void promise03_whatWasThereIsGone() {
        HermitsSpoon x = new HermitsSpoon();
        x.letters('l');
        x.blank();
        x.letters('d');
        Due.is("fault() of d", x.fault(), 0);
        Due.is("vow() of d", x.vow(), STATE);
    }

    // What stood further on before does not make a beginning a VOW.
    private static void beginningBehind(String before, String beginning) {
        HermitsSpoon x = new HermitsSpoon();
        Due.write(x, before);
        x.blank();
        Due.write(x, beginning);
        Due.is("fault() of " + beginning + " behind " + before, x.fault(), beginning.length());
        Due.refused(x, "vow() of " + beginning + " behind " + before, x::vow, STATE);
        HermitsSpoon y = new HermitsSpoon();
        Due.vow(y, before);
        Due.write(y, beginning);
        Due.is("fault() of " + beginning + " behind the vow " + before, y.fault(), beginning.length());
        Due.refused(y, "vow() of " + beginning + " behind the vow " + before, y::vow, STATE);
    }

    static void promise03_lettersFurtherOnAreGoneToo() {
        beginningBehind("l", "");
        beginningBehind("lt5", "lt");
        beginningBehind("lx5", "rx");
        beginningBehind("rt9dx9", "lt1dx");
        HermitsSpoon x = new HermitsSpoon();
        Due.write(x, "lt5dx5");
        x.blank();
        Due.is("vow() of r", Due.vow(x, "r"), 0);
        for (int what = 0; what < 4; what++) {
            Due.is("vowTold(0, " + what + ") of r", x.vowTold(0, what), 0);
        }
    }

    // ---- "The place (from 0) of the first letter of THE PAGE that no VOW has there, behind those ahead of it"

    // Which of all letters may stand behind a beginning: the others are faults.
    private static void faultBehind(String ahead, String fitting) {
        HermitsSpoon x = new HermitsSpoon();
        for (char code = 1; code <= 126; code++) {
            x.blank();
            x.letters(Due.packed(ahead + code));
            int place = ahead.length() + (fitting.indexOf(code) >= 0 ? 1 : 0);
            Due.is("fault() of " + ahead + " and the code " + (int) code, x.fault(), place);
        }
    }

    static void promise04_firstComesLOrR() {
        faultBehind("", "lr");
    }

    static void promise04_behindTheWayComeTDX() {
        faultBehind("l", "tdx");
        faultBehind("r", "tdx");
    }

    static void promise04_behindTComes1To9() {
        faultBehind("lt", "123456789");
    }

    static void promise04_behindTurnsComeDX() {
        faultBehind("rt1", "dx");
        faultBehind("lt9", "dx");
    }

    static void promise04_behindDComesX() {
        faultBehind("ld", "x");
        faultBehind("rt5d", "x");
    }

    static void promise04_behindXComes1To9() {
        faultBehind("lx", "123456789");
        faultBehind("rdx", "123456789");
        faultBehind("lt4x", "123456789");
    }

    static void promise04_behindMostComesNone() {
        faultBehind("lx1", "");
        faultBehind("rt9dx9", "");
    }

    static void promise04_theFirstOfSeveralFaultsIsTold() {
        HermitsSpoon x = pageOf(16);
        Due.is("fault() of a full page", x.fault(), 6);
        x.blank();
        Due.write(x, "lt0dx0");
        Due.is("fault() of lt0dx0", x.fault(), 2);
        x.blank();
        Due.write(x, "tl");
        Due.is("fault() of tl", x.fault(), 0);
    }

    // ---- "how many letters it has, if there is none."

    static void promise04_withoutAFaultItTellsHowMany() {
        String[] texts = {"", "l", "r", "lt", "lt1", "rt9d", "ldx", "lx", "lx9", "rt9dx", "rt9dx9"};
        for (String text : texts) {
            HermitsSpoon x = new HermitsSpoon();
            Due.write(x, text);
            Due.is("fault() of " + text, x.fault(), text.length());
        }
    }

    static void promise04_itLeavesThePage() {
        HermitsSpoon x = new HermitsSpoon();
        Due.write(x, "lt0");
        Due.is("fault()", x.fault(), 2);
        Due.is("fault() again", x.fault(), 2);
        Due.is("blank()", x.blank(), 3);
    }

    // ---- "its number; THE PAGE is empty then. STATE: it is none; FULL."

    static void promise05_anEmptyPageIsNone() {
        HermitsSpoon x = new HermitsSpoon();
        Due.refused(x, "vow()", x::vow, STATE);
    }

    static void promise05_aBeginningThatLacksItsNumberIsNone() {
        String[] texts = {"lt", "rx", "ldx", "lt3x", "rt3dx"};
        for (String text : texts) {
            HermitsSpoon x = new HermitsSpoon();
            Due.write(x, text);
            Due.refused(x, "vow() of " + text, x::vow, STATE);
        }
    }

    static void promise05_turnsAndMostAre1To9() {
        for (char sign : new char[] {'t', 'x'}) {
            for (int number = 0; number <= 10; number++) {
                String text = "l" + sign + number;
                int due = number == 0 || number == 10 ? STATE : 0;
                Due.is("vow() of " + text, Due.vow(new HermitsSpoon(), text), due);
            }
        }
    }

    static void promise05_aVowWithMoreBehindItIsNone() {
        String[] texts = {"ll", "lr", "lt1t1", "ldd", "ldt1", "lx1d", "lx1x1", "lx1t1", "rt9dx9l", "l ", "L", "rt1 "};
        for (String text : texts) {
            HermitsSpoon x = new HermitsSpoon();
            Due.write(x, text);
            Due.refused(x, "vow() of " + text, x::vow, STATE);
        }
        HermitsSpoon full = pageOf(16);
        Due.refused(full, "vow() of a full page", full::vow, STATE);
    }

    static void promise05_thePageIsEmptyThen() {
        HermitsSpoon x = new HermitsSpoon();
        Due.write(x, "rt9dx9");
        Due.is("vow()", x.vow(), 0);
        Due.is("count(6)", x.count(6), 0);
        Due.is("fault()", x.fault(), 0);
        Due.refused(x, "vow() again", x::vow, STATE);
    }

    private static HermitsSpoon sixVows() {
        HermitsSpoon x = new HermitsSpoon();
        for (int i = 0; i < 6; i++) {
            Due.is("vow " + i, Due.vow(x, "lt" + (i + 1)), i);
        }
        return x;
    }

    static void promise05_aSeventhIsFullAndStaysOnThePage() {
        HermitsSpoon x = sixVows();
        Due.write(x, "rd");
        Due.refused(x, "vow()", x::vow, FULL);
        Due.is("count(6)", x.count(6), 2);
        Due.is("count(1)", x.count(1), 6);
    }

    static void promise05_stateIsToldAheadOfFull() {
        HermitsSpoon x = sixVows();
        Due.refused(x, "vow() of nothing", x::vow, STATE);
        Due.write(x, "rt");
        Due.refused(x, "vow() of rt", x::vow, STATE);
    }

    static void promise05_likeVowsHaveNumbersOfTheirOwn() {
        HermitsSpoon x = new HermitsSpoon();
        Due.is("l", Due.vow(x, "l"), 0);
        Due.is("l again", Due.vow(x, "l"), 1);
    }

    // ---- "what = 0 whether it goes to the next SEAT (1, 0), 1 TURNS (0: none), 2 .. (1, 0), 3 MOST (0: none)"

    static void promise06_allFourHundredVows() {
        for (int vow = 0; vow < 400; vow++) {
            int[] told = {vow % 2, vow / 2 % 10, vow / 20 % 2, vow / 40};
            String text = (told[0] == 1 ? "l" : "r") + (told[1] == 0 ? "" : "t" + told[1])
                    + (told[2] == 1 ? "d" : "") + (told[3] == 0 ? "" : "x" + told[3]);
            HermitsSpoon x = new HermitsSpoon();
            Due.is("vow() of " + text, Due.vow(x, text), 0);
            for (int what = 0; what < 4; what++) {
                Due.is("vowTold(0, " + what + ") of " + text, x.vowTold(0, what), told[what]);
            }
        }
    }

    // ---- "UNKNOWN; OUTSIDE."

    static void promise06_aVowThatIsNotThereIsUnknown() {
        HermitsSpoon x = sixVows();
        int[] unknown = {-1, 6, 7, Integer.MIN_VALUE, Integer.MAX_VALUE};
        for (int vow : unknown) {
            Due.refused(x, "vowTold(" + vow + ", 0)", () -> x.vowTold(vow, 0), UNKNOWN);
        }
        Due.is("vowTold(5, 1)", x.vowTold(5, 1), 6);
    }

    static void promise06_whatIs0To3() {
        HermitsSpoon x = sixVows();
        int[] outside = {-1, 4, Integer.MIN_VALUE, Integer.MAX_VALUE};
        for (int what : outside) {
            Due.refused(x, "vowTold(0, " + what + ")", () -> x.vowTold(0, what), OUTSIDE);
        }
    }

    static void promise06_unknownIsToldAheadOfOutside() {
        HermitsSpoon x = new HermitsSpoon();
        Due.refused(x, "vowTold(0, 4)", () -> x.vowTold(0, 4), UNKNOWN);
        Due.refused(x, "vowTold(-1, -1)", () -> x.vowTold(-1, -1), UNKNOWN);
    }
}
