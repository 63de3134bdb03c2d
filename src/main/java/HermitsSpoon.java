import java.util.ArrayList;

/** Hermits at a round table, their soup, their vows, and what comes of a day with one spoon (or two). */
public final class HermitsSpoon {
    public static final int NONE = -1, UNKNOWN = -101, OUTSIDE = -102, STATE = -103, FULL = -104;

    // Where an answer may itself be below 0 (a STORE, a LEAST), refusals stand further off.
    private static final int FAR_UNKNOWN = -1001, FAR_OUTSIDE = -1002;

    private static final int HERMIT = 0, SLOW = 1, DEAF = 2, GREEDY = 3, FEEDER = 4;
    private static final int MOST_HERMITS = 10, MOST_VOWS = 6, MOST_LETTERS = 16, LETTERS_AT_ONCE = 8, LAYERS = 5;
    private static final int MOST_STORE = 99, MOST_NEED = 99, MOST_TEETH = 3, MOST_BITE = 9, MOST_LAYER = 99;
    private static final int MOST_HEAT = 300, FIRST_HEAT = 100, LUKEWARM = 20, MOST_BEATS = 300;
    private static final int STARVED = -1, NOBODY = -1, NO_BITE = -1;
    private static final int NOBODY_TOO = 1 << MOST_HERMITS, ALL_HERMITS = NOBODY_TOO - 1;
    private static final int MOST_STIR = 9, STARVING_DAYS = 60, FASTING_DAYS = 30;
    private static final int TOLD_BITES = 600, TOLD_TURNS = 60, MOST_SOUP = LAYERS * MOST_LAYER;

    private final ArrayList<Hermit> hermits = new ArrayList<Hermit>();
    private final ArrayList<Vow> vows = new ArrayList<Vow>();
    private final Page page = new Page();
    private final Table table = new Table(hermits);
    private final Table kept = new Table(hermits);
    private int keptSeats = NONE;
    private final Sitting sitting = new Sitting(table);
    private final Council council = new Council(sitting, new Table(hermits));

    public HermitsSpoon() {
    }

    // ---- vows

    public int letters(long w) {
        int coming = Page.lettersIn(w);
        if (coming < 0) {
            return OUTSIDE;
        }
        if (page.length + coming > MOST_LETTERS) {
            return FULL;
        }
        page.write(w, coming);
        return page.length;
    }

    public int blank() {
        int had = page.length;
        page.length = 0;
        return had;
    }

    public int fault() {
        page.read();
        return page.place;
    }

    public int vow() {
        page.read();
        if (!page.isVow) {
            return STATE;
        }
        if (vows.size() >= MOST_VOWS) {
            return FULL;
        }
        vows.add(new Vow(page));
        page.length = 0;
        return vows.size() - 1;
    }

    public int vowTold(int vow, int what) {
        Vow of = vowNumbered(vow);
        if (of == null) {
            return UNKNOWN;
        }
        return what < 0 || what > 3 ? OUTSIDE : of.told(what);
    }

    // ---- hermits, soup

    public int hermit(int kind, int n, int need, int teeth, int bite, int store) {
        if (!isWithin(kind, HERMIT, FEEDER) || !isWithin(n, leastNumber(kind), mostNumber(kind))
                || !isWithin(need, 1, MOST_NEED) || !isWithin(teeth, 0, MOST_TEETH)
                || !isWithin(bite, 1, MOST_BITE) || !isWithin(store, 0, MOST_STORE)) {
            return OUTSIDE;
        }
        int number = hermits.size();
        if (number >= MOST_HERMITS) {
            return FULL;
        }
        hermits.add(newcomer(kind, n, need, teeth, bite));
        table.stores[number] = store;
        return number;
    }

    public int as(int hermit, int kind) {
        if (!isHermit(hermit)) {
            return UNKNOWN;
        }
        if (!isWithin(kind, HERMIT, FEEDER)) {
            return OUTSIDE;
        }
        return hermits.get(hermit).isOfKind(kind) ? hermit : NONE;
    }

    public int about(int hermit, int what) {
        if (!isHermit(hermit)) {
            return FAR_UNKNOWN;
        }
        return isWithin(what, 0, 6) ? toldOf(hermit, what) : FAR_OUTSIDE;
    }

    public int store(int hermit, int v) {
        if (!isHermit(hermit)) {
            return FAR_UNKNOWN;
        }
        if (!isWithin(v, 0, MOST_STORE)) {
            return FAR_OUTSIDE;
        }
        int was = table.stores[hermit];
        table.stores[hermit] = v;
        return was;
    }

    public int change(int i, int j) {
        if (!isSeat(i) || !isSeat(j) || i == j) {
            return UNKNOWN;
        }
        table.exchange(i, j);
        return table.sitters[i];
    }

    public int soup(int layer, int v) {
        if (!isWithin(layer, 0, LAYERS - 1)) {
            return UNKNOWN;
        }
        if (!isWithin(v, 0, MOST_LAYER)) {
            return OUTSIDE;
        }
        int was = table.layers[layer];
        table.layers[layer] = v;
        return was;
    }

    public int heat(int v) {
        if (!isWithin(v, 0, MOST_HEAT)) {
            return OUTSIDE;
        }
        int was = table.heat;
        table.heat = v;
        return was;
    }

    public int feast(boolean is) {
        int was = asNumber(table.isFeast);
        table.isFeast = is;
        return was;
    }

    // ---- a day

    public int day(int vow, int seat, int fasts, int what) {
        Vow by = vowNumbered(vow);
        if (by == null || !isSeat(seat)) {
            return UNKNOWN;
        }
        if (!areFasts(fasts) || !isWithin(what, 0, 5)) {
            return OUTSIDE;
        }
        sitting.wholeDay(table, by, seat, fasts);
        return sitting.told(what);
    }

    public int meal(int vow, int seat, int fasts, int hermit) {
        Vow by = vowNumbered(vow);
        if (by == null || !isSeat(seat) || !isHermit(hermit)) {
            return UNKNOWN;
        }
        if (!areFasts(fasts)) {
            return OUTSIDE;
        }
        sitting.wholeDay(table, by, seat, fasts);
        return sitting.meals[hermit];
    }

    public int bite(int vow, int seat, int fasts, int k, int what) {
        Vow by = vowNumbered(vow);
        if (by == null || !isSeat(seat)) {
            return UNKNOWN;
        }
        if (!areFasts(fasts) || !isWithin(k, 0, TOLD_BITES - 1) || !isWithin(what, 0, 4)) {
            return OUTSIDE;
        }
        sitting.begin(table);
        sitting.watched = k;
        sitting.goRound(by, by.turns, seat, fasts, MOST_BEATS);
        return sitting.bites > k ? sitting.seen[what] : NONE;
    }

    public int least(int vow, int seat) {
        Vow by = vowNumbered(vow);
        if (by == null || !isSeat(seat)) {
            return FAR_UNKNOWN;
        }
        return sitting.leastOf(table, by, by.turns, seat);
    }

    public int bestStart(int vow) {
        Vow by = vowNumbered(vow);
        if (by == null) {
            return UNKNOWN;
        }
        return hermits.isEmpty() ? STATE : council.startAdvised(table, by);
    }

    public int bestSwap(int vow, int seat) {
        Vow by = vowNumbered(vow);
        if (by == null || !isSeat(seat)) {
            return UNKNOWN;
        }
        return council.swapAdvised(table, by, seat);
    }

    public int bestStir(int vow, int seat) {
        Vow by = vowNumbered(vow);
        if (by == null || !isSeat(seat)) {
            return UNKNOWN;
        }
        return council.stirAdvised(table, by, seat);
    }

    // ---- days

    public int live(int vow, int seat, int fasts) {
        Vow by = vowNumbered(vow);
        if (by == null || !isSeat(seat)) {
            return UNKNOWN;
        }
        if (!areFasts(fasts)) {
            return OUTSIDE;
        }
        sitting.wholeDay(table, by, seat, fasts);
        return table.endDay(sitting.meals);
    }

    public int starves(int vow, int seat, int hermit) {
        Vow by = vowNumbered(vow);
        if (by == null || !isSeat(seat) || !isHermit(hermit)) {
            return UNKNOWN;
        }
        return table.isStarved(hermit) ? 0 : council.dayOfLoss(table, by, seat, 0, STARVING_DAYS, 1 << hermit);
    }

    public int fasting(int vow, int seat, int days) {
        Vow by = vowNumbered(vow);
        if (by == null || !isSeat(seat)) {
            return UNKNOWN;
        }
        if (!isWithin(days, 1, FASTING_DAYS)) {
            return OUTSIDE;
        }
        for (int k = 0; k < hermits.size(); k++) {
            if (council.dayOfLoss(table, by, seat, k, days, ALL_HERMITS) == NONE) {
                return k;
            }
        }
        return NONE;
    }

    public int schism(int seat, int what) {
        if (!isSeat(seat)) {
            return UNKNOWN;
        }
        if (!isWithin(what, 0, MOST_HERMITS + 1)) {
            return OUTSIDE;
        }
        if (what < MOST_HERMITS && !isHermit(what)) {
            return NONE;
        }
        sitting.begin(table);
        sitting.goBothWays(seat);
        if (what < MOST_HERMITS) {
            return sitting.meals[what];
        }
        return what == MOST_HERMITS ? sitting.turns : sitting.left;
    }

    public int twice(int vow, int seat, int turns, int left) {
        Vow by = vowNumbered(vow);
        if (by == null || !isSeat(seat)) {
            return UNKNOWN;
        }
        if (!isWithin(turns, 1, TOLD_TURNS) || !isWithin(left, 0, MOST_SOUP)) {
            return OUTSIDE;
        }
        int explained = leftIf(NOBODY, by, seat, turns) == left ? NOBODY_TOO : 0;
        for (int h = 0; h < hermits.size(); h++) {
            if (leftIf(h, by, seat, turns) == left) {
                explained |= 1 << h;
            }
        }
        return explained;
    }

    // ---- what is told of all

    public int image() {
        keptSeats = hermits.size();
        kept.becomeLike(table, keptSeats);
        return keptSeats;
    }

    public int restore() {
        if (keptSeats < 0) {
            return STATE;
        }
        table.becomeLike(kept, keptSeats);
        return hermits.size();
    }

    public int count(int what) {
        return isWithin(what, 0, 6) ? counted(what) : OUTSIDE;
    }

    public long digest() {
        long h = 541;
        for (int i = 0; i < hermits.size(); i++) {
            for (int what = 0; what <= 6; what++) {
                h = 31 * h + toldOf(i, what);
            }
        }
        for (int layer = 0; layer < LAYERS; layer++) {
            h = 31 * h + table.layers[layer];
        }
        for (int i = 0; i < vows.size(); i++) {
            h = vowDigested(h, vows.get(i));
        }
        for (int i = 0; i < page.length; i++) {
            h = 31 * h + page.signs[i];
        }
        for (int what = 0; what <= 6; what++) {
            h = 31 * h + counted(what);
        }
        return h;
    }

    // ---- what the calls share

    private static boolean isWithin(int v, int least, int most) {
        return v >= least && v <= most;
    }

    private static int asNumber(boolean is) {
        return is ? 1 : 0;
    }

    private static int leastNumber(int kind) {
        return switch (kind) {
            case SLOW, FEEDER -> 2;
            case GREEDY -> 1;
            default -> 0;
        };
    }

    private static int mostNumber(int kind) {
        return kind == HERMIT || kind == DEAF ? 0 : 4;
    }

    private static Hermit newcomer(int kind, int n, int need, int teeth, int bite) {
        return switch (kind) {
            case SLOW -> new Slow(n, need, teeth, bite);
            case DEAF -> new Deaf(need, teeth, bite);
            case GREEDY -> new Greedy(n, need, teeth, bite);
            case FEEDER -> new Feeder(n, need, teeth, bite);
            default -> new Hermit(0, need, teeth, bite);
        };
    }

    private boolean isHermit(int hermit) {
        return hermit >= 0 && hermit < hermits.size();
    }

    // There are as many seats as hermits.
    private boolean isSeat(int seat) {
        return seat >= 0 && seat < hermits.size();
    }

    private boolean areFasts(int fasts) {
        return fasts >= 0 && fasts < 1 << hermits.size();
    }

    private Vow vowNumbered(int number) {
        return number >= 0 && number < vows.size() ? vows.get(number) : null;
    }

    private int toldOf(int hermit, int what) {
        Hermit of = hermits.get(hermit);
        return switch (what) {
            case 0 -> of.kindNumber();
            case 1 -> of.n;
            case 2 -> of.need;
            case 3 -> of.teeth;
            case 4 -> of.biteSize;
            case 5 -> table.stores[hermit];
            default -> table.seatOf(hermit);
        };
    }

    private int counted(int what) {
        return switch (what) {
            case 0 -> hermits.size();
            case 1 -> vows.size();
            case 2 -> table.soupInAll();
            case 3 -> table.heat;
            case 4 -> asNumber(table.isFeast);
            case 5 -> table.starvedInAll();
            default -> page.length;
        };
    }

    private int leftIf(int taker, Vow by, int seat, int turns) {
        sitting.begin(table);
        sitting.twiceTaker = taker;
        sitting.goRound(by, by.turns, seat, 0, turns);
        return sitting.left;
    }

    private long vowDigested(long from, Vow vow) {
        long h = from;
        for (int what = 0; what <= 3; what++) {
            h = 31 * h + vow.told(what);
        }
        if (hermits.isEmpty()) {
            return h;
        }
        sitting.wholeDay(table, vow, 0, 0);
        for (int what = 0; what <= 5; what++) {
            h = 31 * h + sitting.told(what);
        }
        return 31 * h + sitting.leastSurplus();
    }

    /** What a hermit is for good; its store and its seat are the table's. */
    private static class Hermit {
        final int n;
        final int need;
        final int teeth;
        final int biteSize;

        Hermit(int n, int need, int teeth, int biteSize) {
            this.n = n;
            this.need = need;
            this.teeth = teeth;
            this.biteSize = biteSize;
        }

        int kindNumber() {
            return HERMIT;
        }

        final boolean isOfKind(int kind) {
            return switch (kind) {
                case HERMIT -> true;
                case SLOW -> this instanceof Slow;
                case DEAF -> this instanceof Deaf;
                case GREEDY -> this instanceof Greedy;
                case FEEDER -> this instanceof Feeder;
                default -> false;
            };
        }

        int beatsOfTurn() {
            return 1;
        }

        int bitesInTurn(int bitingTurn) {
            return 1;
        }

        boolean givesAway(int biteOfDay) {
            return false;
        }

        // Whether a number, counted from 1, is an n-th one.
        final boolean isNth(int number) {
            return n > 0 && number % n == 0;
        }
    }

    private static class Slow extends Hermit {
        Slow(int n, int need, int teeth, int biteSize) {
            super(n, need, teeth, biteSize);
        }

        int kindNumber() {
            return SLOW;
        }

        final int beatsOfTurn() {
            return n;
        }
    }

    private static final class Deaf extends Hermit {
        Deaf(int need, int teeth, int biteSize) {
            super(0, need, teeth, biteSize);
        }

        int kindNumber() {
            return DEAF;
        }
    }

    private static final class Greedy extends Hermit {
        Greedy(int n, int need, int teeth, int biteSize) {
            super(n, need, teeth, biteSize);
        }

        int kindNumber() {
            return GREEDY;
        }

        int bitesInTurn(int bitingTurn) {
            return isNth(bitingTurn) ? 2 : 1;
        }
    }

    private static final class Feeder extends Slow {
        Feeder(int n, int need, int teeth, int biteSize) {
            super(n, need, teeth, biteSize);
        }

        int kindNumber() {
            return FEEDER;
        }

        boolean givesAway(int biteOfDay) {
            return isNth(biteOfDay);
        }
    }

    private static final class Vow {
        final boolean goesToNext;
        final int turns;
        final boolean skipsDeaf;
        final int most;

        Vow(Page read) {
            goesToNext = read.goesToNext;
            turns = read.turns;
            skipsDeaf = read.skipsDeaf;
            most = read.most;
        }

        int told(int what) {
            return switch (what) {
                case 0 -> asNumber(goesToNext);
                case 1 -> turns;
                case 2 -> asNumber(skipsDeaf);
                default -> most;
            };
        }
    }

    /** THE PAGE, and what reading it as a vow has found. */
    private static final class Page {
        final int[] signs = new int[MOST_LETTERS];
        int length;
        int place;
        boolean isVow;
        boolean goesToNext;
        int turns;
        boolean skipsDeaf;
        int most;

        // NONE, if the bytes are no letters.
        static int lettersIn(long w) {
            int many = 0;
            long rest = w;
            while (many < LETTERS_AT_ONCE && (rest & 255) != 0) {
                if ((rest & 255) > 126) {
                    return NONE;
                }
                rest >>>= 8;
                many++;
            }
            return rest == 0 ? many : NONE;
        }

        void write(long w, int many) {
            for (int i = 0; i < many && length < MOST_LETTERS; i++) {
                signs[length] = (int) (w >>> 8 * i & 255);
                length++;
            }
        }

        // Goes as far as a vow can go: place is then at the first letter that no vow has there, or behind the last.
        void read() {
            place = 0;
            isVow = false;
            goesToNext = comes('l');
            if (!goesToNext && !comes('r')) {
                return;
            }
            boolean stirs = comes('t');
            turns = stirs ? digit() : 0;
            if (stirs && turns == 0) {
                return;
            }
            skipsDeaf = comes('d');
            boolean limits = comes('x');
            most = limits ? digit() : 0;
            isVow = place == length && !(limits && most == 0);
        }

        private boolean comes(char sign) {
            if (place >= length || signs[place] != sign) {
                return false;
            }
            place++;
            return true;
        }

        // 0, if there is none of 1 to 9.
        private int digit() {
            if (place >= length || signs[place] < '1' || signs[place] > '9') {
                return 0;
            }
            place++;
            return signs[place - 1] - '0';
        }
    }

    /** What changes: who sits where with which store, and the soup. An image is one of these, too. */
    private static final class Table {
        final ArrayList<Hermit> hermits;
        final int[] stores = new int[MOST_HERMITS];
        final int[] sitters = new int[MOST_HERMITS];
        final int[] layers = new int[LAYERS];
        int heat = FIRST_HEAT;
        boolean isFeast;

        Table(ArrayList<Hermit> hermits) {
            this.hermits = hermits;
            for (int i = 0; i < MOST_HERMITS; i++) {
                sitters[i] = i;
            }
        }

        // Those who came later keep their stores and sit in the seats that they came to.
        void becomeLike(Table other, int seats) {
            for (int i = 0; i < MOST_HERMITS; i++) {
                stores[i] = i < seats ? other.stores[i] : stores[i];
                sitters[i] = i < seats ? other.sitters[i] : i;
            }
            System.arraycopy(other.layers, 0, layers, 0, LAYERS);
            heat = other.heat;
            isFeast = other.isFeast;
        }

        void exchange(int i, int j) {
            int sitter = sitters[i];
            sitters[i] = sitters[j];
            sitters[j] = sitter;
        }

        int seatOf(int hermit) {
            for (int seat = 0; seat < MOST_HERMITS; seat++) {
                if (sitters[seat] == hermit) {
                    return seat;
                }
            }
            return NONE;
        }

        Hermit hermitIn(int seat) {
            return hermits.get(sitters[seat]);
        }

        int seatNext(int seat) {
            return seat + 1 < hermits.size() ? seat + 1 : 0;
        }

        int seatBeside(int seat, boolean next) {
            if (next) {
                return seatNext(seat);
            }
            return seat > 0 ? seat - 1 : hermits.size() - 1;
        }

        boolean isStarved(int hermit) {
            return stores[hermit] == STARVED;
        }

        int soupInAll() {
            int all = 0;
            for (int layer = 0; layer < LAYERS; layer++) {
                all += layers[layer];
            }
            return all;
        }

        int starvedInAll() {
            int all = 0;
            for (int h = 0; h < hermits.size(); h++) {
                all += asNumber(isStarved(h));
            }
            return all;
        }

        // Answers who starved by it, as bits.
        int endDay(int[] meals) {
            int starving = 0;
            for (int h = 0; h < hermits.size(); h++) {
                if (isStarved(h)) {
                    continue;
                }
                int store = Math.min(stores[h] + meals[h], MOST_STORE) - hermits.get(h).need;
                if (store < 0) {
                    starving |= 1 << h;
                }
                stores[h] = store < 0 ? STARVED : store;
            }
            return starving;
        }
    }

    /** A day (or a schism) as it goes: what the table holds stays as it is. */
    private static final class Sitting {
        Table table;
        final int[] layers = new int[LAYERS];
        int heat;
        int left;
        int turns;
        int beats;
        int bites;
        int worth;
        final int[] meals = new int[MOST_HERMITS];
        final int[] bitesBy = new int[MOST_HERMITS];
        final int[] bitingTurns = new int[MOST_HERMITS];
        int twiceTaker;
        int watched;
        // Of the watched bite: who bites, whom it is for, the layer, how much, its worth.
        final int[] seen = new int[5];

        Sitting(Table first) {
            table = first;
        }

        void begin(Table at) {
            table = at;
            System.arraycopy(at.layers, 0, layers, 0, LAYERS);
            heat = at.heat;
            left = at.soupInAll();
            turns = 0;
            beats = 0;
            bites = 0;
            worth = 0;
            for (int h = 0; h < MOST_HERMITS; h++) {
                meals[h] = 0;
                bitesBy[h] = 0;
                bitingTurns[h] = 0;
            }
            twiceTaker = NOBODY;
            watched = NO_BITE;
        }

        void wholeDay(Table at, Vow vow, int seat, int fasts) {
            begin(at);
            goRound(vow, vow.turns, seat, fasts, MOST_BEATS);
        }

        int leastOf(Table at, Vow vow, int stirring, int seat) {
            begin(at);
            goRound(vow, stirring, seat, 0, MOST_BEATS);
            return leastSurplus();
        }

        // A turn takes 1 beat at least, so there are never more turns than beats.
        void goRound(Vow vow, int stirring, int seat, int fasts, int turnsAtMost) {
            int at = seat;
            while (turns < turnsAtMost && !isOver()) {
                at = seatServed(vow, at, fasts);
                if (at == NONE) {
                    return;
                }
                turns++;
                if (stirring > 0 && turns % stirring == 0) {
                    stir();
                } else {
                    eat(at);
                }
                passTime(table.hermitIn(at).beatsOfTurn());
                at = table.seatBeside(at, vow.goesToNext);
            }
        }

        // A spoon stays where it has come to until its turn: in the seat of one who starved it is in nobody's way.
        void goBothWays(int seat) {
            int size = table.hermits.size();
            if (size == 0 || table.starvedInAll() == size) {
                return;
            }
            int mine = seat;
            int other = (seat + size / 2) % size;
            boolean next = true;
            while (turns < MOST_BEATS && !isOver()) {
                mine = seatAlive(mine, next);
                turns++;
                if (mine == other) {
                    passTime(1);
                } else {
                    eat(mine);
                    passTime(table.hermitIn(mine).beatsOfTurn());
                }
                int gone = table.seatBeside(mine, next);
                mine = other;
                other = gone;
                next = !next;
            }
        }

        int told(int what) {
            return switch (what) {
                case 0 -> turns;
                case 1 -> beats;
                case 2 -> left;
                case 3 -> bites;
                case 4 -> worth;
                default -> heat;
            };
        }

        int leastSurplus() {
            boolean found = false;
            int least = 0;
            for (int h = 0; h < table.hermits.size(); h++) {
                int surplus = meals[h] - table.hermits.get(h).need;
                if (!table.isStarved(h) && (!found || surplus < least)) {
                    found = true;
                    least = surplus;
                }
            }
            return least;
        }

        private boolean isOver() {
            return left == 0 || beats >= MOST_BEATS;
        }

        // The first seat from there on that is not skipped; NONE, if all are.
        private int seatServed(Vow vow, int from, int fasts) {
            int seat = from;
            for (int i = 0; i < table.hermits.size(); i++) {
                if (!isSkipped(vow, table.sitters[seat], fasts)) {
                    return seat;
                }
                seat = table.seatBeside(seat, vow.goesToNext);
            }
            return NONE;
        }

        private boolean isSkipped(Vow vow, int hermit, int fasts) {
            return table.isStarved(hermit) || (fasts >> hermit & 1) != 0
                    || vow.most > 0 && bitesBy[hermit] >= vow.most
                    || vow.skipsDeaf && table.hermits.get(hermit).isOfKind(DEAF);
        }

        private int seatAlive(int from, boolean next) {
            int seat = from;
            for (int i = 0; i < table.hermits.size() && table.isStarved(table.sitters[seat]); i++) {
                seat = table.seatBeside(seat, next);
            }
            return seat;
        }

        private void stir() {
            int each = left / LAYERS;
            int rest = left % LAYERS;
            // The rest sinks: layer 4 is the lowest.
            for (int layer = 0; layer < LAYERS; layer++) {
                layers[layer] = each + asNumber(layer >= LAYERS - rest);
            }
        }

        private void passTime(int passing) {
            beats += passing;
            heat = Math.max(heat - passing, 0);
        }

        private void eat(int seat) {
            int eater = table.sitters[seat];
            bitingTurns[eater]++;
            int many = table.hermitIn(seat).bitesInTurn(bitingTurns[eater]) + asNumber(eater == twiceTaker);
            for (int i = 0; i < many && left > 0; i++) {
                takeBite(eater, seat);
            }
        }

        private void takeBite(int eater, int seat) {
            Hermit biting = table.hermitIn(seat);
            bitesBy[eater]++;
            int fed = biting.givesAway(bitesBy[eater]) ? table.sitters[table.seatNext(seat)] : eater;
            int layer = firstLayer();
            int much = Math.min(biting.biteSize, layers[layer]);
            int worthIt = worthOf(much, layer, fed);
            layers[layer] -= much;
            left -= much;
            meals[fed] += worthIt;
            worth += worthIt;
            if (bites == watched) {
                look(eater, fed, layer, much, worthIt);
            }
            bites++;
        }

        // Called while there is soup: then it is the first layer that is not empty.
        private int firstLayer() {
            int layer = 0;
            while (layer < LAYERS - 1 && layers[layer] == 0) {
                layer++;
            }
            return layer;
        }

        private int worthOf(int much, int layer, int fed) {
            if (table.isFeast && layer == LAYERS - 1 && table.hermits.get(fed).teeth == 0) {
                return 0;
            }
            int warm = much * (1 + layer);
            return heat < LUKEWARM ? warm / 2 : warm;
        }

        private void look(int eater, int fed, int layer, int much, int worthIt) {
            seen[0] = eater;
            seen[1] = fed;
            seen[2] = layer;
            seen[3] = much;
            seen[4] = worthIt;
        }
    }

    /** What would be best, and what days to come would bring, tried out at a table of its own. */
    private static final class Council {
        private final Sitting sitting;
        private final Table trial;
        private final int[][] mealsOfRound = new int[MOST_HERMITS][MOST_HERMITS];

        Council(Sitting sitting, Table trial) {
            this.sitting = sitting;
            this.trial = trial;
        }

        int startAdvised(Table table, Vow vow) {
            int best = 0;
            int greatest = sitting.leastOf(table, vow, vow.turns, 0);
            for (int seat = 1; seat < table.hermits.size(); seat++) {
                int least = sitting.leastOf(table, vow, vow.turns, seat);
                if (least > greatest) {
                    greatest = least;
                    best = seat;
                }
            }
            return best;
        }

        int swapAdvised(Table table, Vow vow, int seat) {
            int size = table.hermits.size();
            int best = NONE;
            int greatest = sitting.leastOf(table, vow, vow.turns, seat);
            trial.becomeLike(table, size);
            for (int i = 0; i < size; i++) {
                for (int j = i + 1; j < size; j++) {
                    trial.exchange(i, j);
                    int least = sitting.leastOf(trial, vow, vow.turns, seat);
                    trial.exchange(i, j);
                    if (least > greatest) {
                        greatest = least;
                        best = 16 * i + j;
                    }
                }
            }
            return best;
        }

        int stirAdvised(Table table, Vow vow, int seat) {
            int best = 0;
            int greatest = sitting.leastOf(table, vow, 0, seat);
            for (int stirring = 1; stirring <= MOST_STIR; stirring++) {
                int least = sitting.leastOf(table, vow, stirring, seat);
                if (least > greatest) {
                    greatest = least;
                    best = stirring;
                }
            }
            return best;
        }

        // The first day (from 1) on which one of those looked at starves, k fasting by turns; NONE, if no day is.
        int dayOfLoss(Table table, Vow vow, int seat, int k, int days, int lookedAt) {
            int size = table.hermits.size();
            trial.becomeLike(table, size);
            int start = seat;
            int sameSince = 0;
            for (int day = 0; day < days && size > 0; day++) {
                int[] meals = mealsOfRound[day % size];
                // As long as the same ones live, spoon and fasts are as they were a whole round of days ago.
                if (day - sameSince < size) {
                    sitting.wholeDay(trial, vow, start, fastersOf(day, k));
                    System.arraycopy(sitting.meals, 0, meals, 0, MOST_HERMITS);
                }
                int starving = trial.endDay(meals);
                if ((starving & lookedAt) != 0) {
                    return day + 1;
                }
                sameSince = starving != 0 ? day + 1 : sameSince;
                start = trial.seatBeside(start, vow.goesToNext);
            }
            return NONE;
        }

        private int fastersOf(int day, int k) {
            int size = trial.hermits.size();
            int fasts = 0;
            for (int i = 0; i < k && size > 0; i++) {
                fasts |= 1 << trial.sitters[(day * k + i) % size];
            }
            return fasts;
        }
    }
}
