/** Promises 7 to 14: each sentence of the document that names a boundary, with a test of its own. */
public final class HermitEdgesTest {
    private static final int UNKNOWN = HermitsSpoon.UNKNOWN, OUTSIDE = HermitsSpoon.OUTSIDE, NONE = HermitsSpoon.NONE;
    private static final int FULL = HermitsSpoon.FULL, LEAST = Integer.MIN_VALUE, GREATEST = Integer.MAX_VALUE;

    public static void main(String[] args) throws IllegalAccessException {
        Edges.run(HermitEdgesTest.class, 7, 14);
    }

    private static HermitsSpoon ten() {
        HermitsSpoon x = new HermitsSpoon();
        for (int i = 0; i < 10; i++) {
            Due.is("hermit " + i, x.hermit(0, 0, 1 + i, 0, 1, i), i);
        }
        return x;
    }

    private static HermitsSpoon ofEachKind() {
        HermitsSpoon x = new HermitsSpoon();
        int[] n = {0, 2, 0, 1, 2};
        for (int kind = 0; kind < 5; kind++) {
            x.hermit(kind, n[kind], 9, 0, 1, 5);
        }
        return x;
    }

    // Hermit 0 has starved, the second lives.
    private static HermitsSpoon oneStarved() {
        HermitsSpoon x = new HermitsSpoon();
        x.hermit(0, 0, 9, 0, 1, 8);
        x.hermit(0, 0, 9, 0, 1, 9);
        Due.vow(x, "l");
        Due.is("live(0, 0, 0)", x.live(0, 0, 0), 1);
        return x;
    }

    private static int hermit(HermitsSpoon x, int[] of) {
        return x.hermit(of[0], of[1], of[2], of[3], of[4], of[5]);
    }

    // One number of a hermit at its edges: least and most are taken, what is beyond them is OUTSIDE.
    private static void edges(int place, int least, int most, int... plain) {
        for (int v : new int[] {least, most}) {
            int[] of = plain.clone();
            of[place] = v;
            HermitsSpoon x = new HermitsSpoon();
            Due.is("number " + place + " is " + v, hermit(x, of), 0);
            Due.is("it is told", x.about(0, place), v);
        }
        for (int v : new int[] {least - 1, most + 1, LEAST, GREATEST}) {
            int[] of = plain.clone();
            of[place] = v;
            HermitsSpoon x = new HermitsSpoon();
            Due.refused(x, "number " + place + " is " + v, () -> hermit(x, of), OUTSIDE);
        }
    }

    // ---- "0 HERMIT, 1 SLOW, 2 DEAF, 3 GREEDY, 4 FEEDER"

    static void promise07_kindIs0To4() {
        edges(0, 3, 4, 3, 2, 1, 0, 1, 0);
        HermitsSpoon x = ofEachKind();
        for (int kind = 0; kind < 5; kind++) {
            Due.is("about(" + kind + ", 0)", x.about(kind, 0), kind);
        }
        for (int n = -1; n <= 5; n++) {
            int own = n;
            Due.refused(x, "kind -1, n " + n, () -> x.hermit(-1, own, 1, 0, 1, 0), OUTSIDE);
            Due.refused(x, "kind 5, n " + n, () -> x.hermit(5, own, 1, 0, 1, 0), OUTSIDE);
        }
    }

    // ---- "a number n (of a SLOW, a FEEDER 2 to 4; of a GREEDY 1 to 4; else 0)"

    static void promise07_nOfASlowIs2To4() {
        edges(1, 2, 4, 1, 0, 1, 0, 1, 0);
    }

    static void promise07_nOfAFeederIs2To4() {
        edges(1, 2, 4, 4, 0, 1, 0, 1, 0);
    }

    static void promise07_nOfAGreedyIs1To4() {
        edges(1, 1, 4, 3, 0, 1, 0, 1, 0);
    }

    static void promise07_nOfAHermitIs0() {
        edges(1, 0, 0, 0, 0, 1, 0, 1, 0);
    }

    static void promise07_nOfADeafIs0() {
        edges(1, 0, 0, 2, 0, 1, 0, 1, 0);
    }

    // ---- "NEED (1 to 99), TEETH (0 to 3), BITE (1 to 9), STORE (0 to 99)"

    static void promise07_needIs1To99() {
        edges(2, 1, 99, 0, 0, 1, 0, 1, 0);
    }

    static void promise07_teethAre0To3() {
        edges(3, 0, 3, 0, 0, 1, 0, 1, 0);
    }

    static void promise07_biteIs1To9() {
        edges(4, 1, 9, 0, 0, 1, 0, 1, 0);
    }

    static void promise07_storeIs0To99() {
        edges(5, 0, 99, 0, 0, 1, 0, 1, 0);
    }

    // ---- "HERMITS (10 at most, numbered)", "OUTSIDE: ..; FULL"

    static void promise07_theTenthIsTakenTheEleventhIsFull() {
        HermitsSpoon x = ten();
        Due.refused(x, "an eleventh", () -> x.hermit(0, 0, 1, 0, 1, 0), FULL);
        Due.is("count(0)", x.count(0), 10);
        Due.is("about(10, 0)", x.about(10, 0), -1001);
    }

    static void promise07_outsideIsToldAheadOfFull() {
        HermitsSpoon x = ten();
        Due.refused(x, "an eleventh of no kind", () -> x.hermit(5, 0, 1, 0, 1, 0), OUTSIDE);
        Due.refused(x, "an eleventh whose n is none", () -> x.hermit(1, 1, 1, 0, 1, 0), OUTSIDE);
        Due.refused(x, "an eleventh without a need", () -> x.hermit(0, 0, 0, 0, 1, 0), OUTSIDE);
        Due.refused(x, "an eleventh with too many teeth", () -> x.hermit(0, 0, 1, 4, 1, 0), OUTSIDE);
        Due.refused(x, "an eleventh without a bite", () -> x.hermit(0, 0, 1, 0, 0, 0), OUTSIDE);
        Due.refused(x, "an eleventh with too much", () -> x.hermit(0, 0, 1, 0, 1, 100), OUTSIDE);
    }

    // ---- "As they come they sit in SEATS 0, 1, .. of a ring."

    static void promise07_whoComesSitsBehindAllOthers() {
        HermitsSpoon x = ten();
        for (int h = 0; h < 10; h++) {
            Due.is("about(" + h + ", 6)", x.about(h, 6), h);
        }
        HermitsSpoon y = ofEachKind();
        y.change(0, 4);
        Due.is("hermit behind a change", y.hermit(0, 0, 1, 0, 1, 0), 5);
        Due.is("its SEAT", y.about(5, 6), 5);
        Due.is("the SEAT of 0", y.about(0, 6), 4);
    }

    static void promise07_aRefusedOneTakesNoNumberAndNoSeat() {
        HermitsSpoon x = new HermitsSpoon();
        Due.refused(x, "without a need", () -> x.hermit(0, 0, 0, 0, 1, 7), OUTSIDE);
        Due.is("the next one", x.hermit(0, 0, 1, 0, 1, 3), 0);
        Due.is("its SEAT", x.about(0, 6), 0);
        Due.is("its STORE", x.about(0, 5), 3);
    }

    // ---- "All are HERMITS; a FEEDER is SLOW, too.", "NONE: it is none such (the cast fails)"

    static void promise08_allAreHermits() {
        HermitsSpoon x = ofEachKind();
        for (int h = 0; h < 5; h++) {
            Due.is("as(" + h + ", 0)", x.as(h, 0), h);
        }
    }

    static void promise08_aFeederIsSlowTooASlowIsNoFeeder() {
        HermitsSpoon x = ofEachKind();
        Due.is("a FEEDER as a SLOW", x.as(4, 1), 4);
        Due.is("a SLOW as a FEEDER", x.as(1, 4), NONE);
    }

    static void promise08_noneOtherIsSuch() {
        HermitsSpoon x = ofEachKind();
        for (int h = 0; h < 5; h++) {
            for (int kind = 1; kind < 5; kind++) {
                boolean is = h == kind || h == 4 && kind == 1;
                Due.is("as(" + h + ", " + kind + ")", x.as(h, kind), is ? h : NONE);
            }
        }
    }

    static void promise08_hermit0TakenIsNotNone() {
        HermitsSpoon x = new HermitsSpoon();
        x.hermit(4, 4, 1, 0, 1, 0);
        Due.is("as(0, 1)", x.as(0, 1), 0);
        Due.is("as(0, 3)", x.as(0, 3), NONE);
    }

    static void promise08_whoStarvedIsOfItsKind() {
        HermitsSpoon x = oneStarved();
        Due.is("as(0, 0)", x.as(0, 0), 0);
        Due.is("as(0, 2)", x.as(0, 2), NONE);
    }

    // ---- "UNKNOWN; OUTSIDE."

    static void promise08_aHermitThatIsNotThereIsUnknown() {
        HermitsSpoon x = ofEachKind();
        for (int hermit : new int[] {-1, 5, 10, LEAST, GREATEST}) {
            Due.refused(x, "as(" + hermit + ", 0)", () -> x.as(hermit, 0), UNKNOWN);
            Due.refused(x, "as(" + hermit + ", 5): ahead of OUTSIDE", () -> x.as(hermit, 5), UNKNOWN);
        }
    }

    static void promise08_noSuchKindIsOutside() {
        HermitsSpoon x = ofEachKind();
        for (int kind : new int[] {-1, 5, LEAST, GREATEST}) {
            Due.refused(x, "as(4, " + kind + ")", () -> x.as(4, kind), OUTSIDE);
        }
    }

    // ---- "what = 0 KIND, .. 6 its SEAT. -1001: UNKNOWN; -1002: OUTSIDE."

    static void promise09_theGreatestNumbersAreTold() {
        HermitsSpoon x = new HermitsSpoon();
        x.hermit(4, 4, 99, 3, 9, 99);
        int[] told = {4, 4, 99, 3, 9, 99, 0};
        for (int what = 0; what < told.length; what++) {
            Due.is("about(0, " + what + ")", x.about(0, what), told[what]);
        }
    }

    static void promise09_whoStarvedHasStoreMinus1() {
        HermitsSpoon x = oneStarved();
        Due.is("about(0, 5)", x.about(0, 5), -1);
        Due.is("about(1, 5): 0 is not STARVED", x.about(1, 5), 0);
    }

    static void promise09_whatIs0To6() {
        HermitsSpoon x = ofEachKind();
        for (int what : new int[] {-1, 7, LEAST, GREATEST}) {
            Due.refused(x, "about(0, " + what + ")", () -> x.about(0, what), -1002);
        }
    }

    static void promise09_aHermitThatIsNotThereIsUnknownAheadOfOutside() {
        HermitsSpoon x = ofEachKind();
        for (int hermit : new int[] {-1, 5, 9, 10, LEAST, GREATEST}) {
            Due.refused(x, "about(" + hermit + ", 6)", () -> x.about(hermit, 6), -1001);
            Due.refused(x, "about(" + hermit + ", 7)", () -> x.about(hermit, 7), -1001);
        }
    }

    // ---- "STORE of a HERMIT becomes v (it lives again, if it STARVED): what it was."

    static void promise10_storeIs0To99() {
        HermitsSpoon x = ofEachKind();
        Due.is("store(0, 99)", x.store(0, 99), 5);
        Due.is("store(0, 0)", x.store(0, 0), 99);
        Due.is("about(0, 5)", x.about(0, 5), 0);
        for (int v : new int[] {-1, 100, LEAST, GREATEST}) {
            Due.refused(x, "store(0, " + v + ")", () -> x.store(0, v), -1002);
        }
    }

    static void promise10_withAStoreOf0ItLivesAgain() {
        HermitsSpoon x = oneStarved();
        Due.is("store(0, 0)", x.store(0, 0), -1);
        Due.is("count(5)", x.count(5), 0);
        x.soup(0, 1);
        Due.is("meal(0, 0, 0, 0)", x.meal(0, 0, 0, 0), 1);
    }

    static void promise10_aRefusedCallWakesNobody() {
        HermitsSpoon x = oneStarved();
        Due.refused(x, "store(0, 100)", () -> x.store(0, 100), -1002);
        Due.refused(x, "store(0, -1)", () -> x.store(0, -1), -1002);
        Due.is("count(5)", x.count(5), 1);
    }

    static void promise10_itAloneIsChanged() {
        HermitsSpoon x = ten();
        x.store(9, 50);
        for (int h = 0; h < 10; h++) {
            Due.is("about(" + h + ", 5)", x.about(h, 5), h == 9 ? 50 : h);
        }
    }

    static void promise10_aHermitThatIsNotThereIsUnknownAheadOfOutside() {
        HermitsSpoon x = ofEachKind();
        for (int hermit : new int[] {-1, 5, 10, LEAST, GREATEST}) {
            Due.refused(x, "store(" + hermit + ", 1)", () -> x.store(hermit, 1), -1001);
            Due.refused(x, "store(" + hermit + ", 100)", () -> x.store(hermit, 100), -1001);
        }
    }

    // ---- "HERMITS in two SEATS change them: who sits in the first one then."

    static void promise11_theFirstAndTheLastSeat() {
        HermitsSpoon x = ten();
        Due.is("change(0, 9)", x.change(0, 9), 9);
        Due.is("about(0, 6)", x.about(0, 6), 9);
        Due.is("about(9, 6)", x.about(9, 6), 0);
        Due.is("change(9, 0): back", x.change(9, 0), 9);
        Due.is("about(9, 6)", x.about(9, 6), 9);
    }

    static void promise11_theyAreSeatsNotHermits() {
        HermitsSpoon x = ofEachKind();
        Due.is("change(0, 1)", x.change(0, 1), 1);
        Due.is("change(1, 2): hermit 0 sits in SEAT 1", x.change(1, 2), 2);
        int[] seats = {2, 0, 1, 3, 4};
        for (int h = 0; h < 5; h++) {
            Due.is("about(" + h + ", 6)", x.about(h, 6), seats[h]);
        }
    }

    static void promise11_whoStarvedChangesToo() {
        HermitsSpoon x = oneStarved();
        Due.is("change(0, 1)", x.change(0, 1), 1);
        Due.is("about(0, 5)", x.about(0, 5), -1);
        Due.is("about(0, 6)", x.about(0, 6), 1);
    }

    // ---- "UNKNOWN: i, j, or they are the same."

    static void promise11_theSameSeatIsUnknown() {
        HermitsSpoon x = ofEachKind();
        for (int seat : new int[] {0, 2, 4}) {
            Due.refused(x, "change(" + seat + ", " + seat + ")", () -> x.change(seat, seat), UNKNOWN);
        }
        HermitsSpoon one = new HermitsSpoon();
        one.hermit(0, 0, 1, 0, 1, 0);
        Due.refused(one, "change(0, 0) of one", () -> one.change(0, 0), UNKNOWN);
        Due.refused(one, "change(0, 1) of one", () -> one.change(0, 1), UNKNOWN);
    }

    static void promise11_aSeatThatIsNotThereIsUnknown() {
        HermitsSpoon x = ofEachKind();
        for (int seat : new int[] {-1, 5, 10, LEAST, GREATEST}) {
            Due.refused(x, "change(" + seat + ", 0)", () -> x.change(seat, 0), UNKNOWN);
            Due.refused(x, "change(0, " + seat + ")", () -> x.change(0, seat), UNKNOWN);
            Due.refused(x, "change(" + seat + ", " + seat + ")", () -> x.change(seat, seat), UNKNOWN);
        }
    }

    // ---- "LAYERS 0 (above) to 4, each 0 to 99 (0 at first)", "UNKNOWN: layer (0 to 4); OUTSIDE."

    static void promise12_eachLayerIs0To99() {
        HermitsSpoon x = new HermitsSpoon();
        for (int layer = 0; layer < 5; layer++) {
            Due.is("soup(" + layer + ", 99)", x.soup(layer, 99), 0);
        }
        Due.is("count(2)", x.count(2), 495);
        for (int layer = 0; layer < 5; layer++) {
            int own = layer;
            Due.refused(x, "soup(" + layer + ", 100)", () -> x.soup(own, 100), OUTSIDE);
            Due.refused(x, "soup(" + layer + ", -1)", () -> x.soup(own, -1), OUTSIDE);
            Due.is("soup(" + layer + ", 0)", x.soup(layer, 0), 99);
        }
        Due.is("count(2)", x.count(2), 0);
        Due.refused(x, "soup(0, least)", () -> x.soup(0, LEAST), OUTSIDE);
        Due.refused(x, "soup(0, greatest)", () -> x.soup(0, GREATEST), OUTSIDE);
    }

    static void promise12_aLayerThatIsNotThereIsUnknownAheadOfOutside() {
        HermitsSpoon x = new HermitsSpoon();
        for (int layer : new int[] {-1, 5, LEAST, GREATEST}) {
            Due.refused(x, "soup(" + layer + ", 1)", () -> x.soup(layer, 1), UNKNOWN);
            Due.refused(x, "soup(" + layer + ", 100)", () -> x.soup(layer, 100), UNKNOWN);
        }
    }

    static void promise12_itAloneIsChanged() {
        HermitsSpoon x = new HermitsSpoon();
        Due.soup(x, 1, 2, 3, 4, 5);
        Due.is("soup(3, 9)", x.soup(3, 9), 4);
        int[] layers = {1, 2, 3, 9, 5};
        for (int layer = 0; layer < 5; layer++) {
            Due.is("soup(" + layer + ", 0)", x.soup(layer, 0), layers[layer]);
        }
    }

    // ---- "HEAT is 0 to 300 (100 at first)", "HEAT becomes v: what it was. OUTSIDE."

    static void promise13_heatIs0To300() {
        HermitsSpoon x = new HermitsSpoon();
        Due.is("heat(300)", x.heat(300), 100);
        Due.refused(x, "heat(301)", () -> x.heat(301), OUTSIDE);
        Due.is("heat(0)", x.heat(0), 300);
        Due.refused(x, "heat(-1)", () -> x.heat(-1), OUTSIDE);
        Due.refused(x, "heat(least)", () -> x.heat(LEAST), OUTSIDE);
        Due.refused(x, "heat(greatest)", () -> x.heat(GREATEST), OUTSIDE);
        Due.is("heat(1)", x.heat(1), 0);
    }

    // ---- "A day is a FEAST, or not (not at first)", "whether it was (1, 0)"

    static void promise14_whetherItWas() {
        HermitsSpoon x = new HermitsSpoon();
        Due.is("feast(false) at first", x.feast(false), 0);
        Due.is("feast(true)", x.feast(true), 0);
        Due.is("feast(true) again", x.feast(true), 1);
        Due.is("feast(false)", x.feast(false), 1);
        Due.is("feast(false) again", x.feast(false), 0);
    }
}
