import java.util.ArrayList;
import java.util.List;

/** The document's words once more, written without a thought of room or time, for RandomRunsTest to compare with. */
final class PlainModel {
    private static final int NONE = -1, UNKNOWN = -101, OUTSIDE = -102, STATE = -103, FULL = -104;

    /** kind, n, need, teeth, bite, store, seat: as about() tells them. */
    private List<int[]> hermits = new ArrayList<>();
    private int[] soup = new int[5];
    private int heat = 100;
    private boolean feast;
    private final List<String> vows = new ArrayList<>();
    private String page = "";
    private PlainModel kept;

    /** What came of a day. */
    private static final class Outcome {
        final List<int[]> bites = new ArrayList<>();
        int turns, beats, left, heat;

        int meal(int hermit) {
            return bites.stream().filter(b -> b[1] == hermit).mapToInt(b -> b[4]).sum();
        }

        long by(int hermit) {
            return bites.stream().filter(b -> b[0] == hermit).count();
        }

        int worth() {
            return bites.stream().mapToInt(b -> b[4]).sum();
        }
    }

    private static boolean in(int v, int least, int most) {
        return least <= v && v <= most;
    }

    private PlainModel copy() {
        PlainModel m = new PlainModel();
        for (int[] h : hermits) {
            m.hermits.add(h.clone());
        }
        m.soup = soup.clone();
        m.heat = heat;
        m.feast = feast;
        return m;
    }

    private int sitter(int seat) {
        for (int h = 0; h < hermits.size(); h++) {
            if (hermits.get(h)[6] == Math.floorMod(seat, hermits.size())) {
                return h;
            }
        }
        throw new IllegalStateException("an empty seat");
    }

    private static int behind(String vow, char sign) {
        int at = vow.indexOf(sign);
        return at < 0 ? 0 : vow.charAt(at + 1) - '0';
    }

    private static int way(String vow) {
        return vow.startsWith("l") ? 1 : -1;
    }

    // ---- a day

    private boolean skipped(int h, String vow, int fasts, Outcome day) {
        int[] hermit = hermits.get(h);
        int most = behind(vow, 'x');
        return hermit[5] == -1 || (fasts & 1 << h) != 0 || vow.contains("d") && hermit[0] == 2
                || most != 0 && day.by(h) >= most;
    }

    private boolean over(Outcome day, int[] layers) {
        day.left = java.util.Arrays.stream(layers).sum();
        return day.left == 0 || day.beats >= 300;
    }

    private void bites(Outcome day, int[] layers, int h, int bitingTurn, boolean twice) {
        int[] hermit = hermits.get(h);
        int many = hermit[0] == 3 && bitingTurn % hermit[1] == 0 ? 2 : 1;
        for (int i = 0; i < (twice ? many + 1 : many); i++) {
            int layer = 0;
            while (layer < 5 && layers[layer] == 0) {
                layer++;
            }
            if (layer == 5) {
                return;
            }
            int much = Math.min(hermit[4], layers[layer]);
            layers[layer] -= much;
            boolean away = hermit[0] == 4 && (day.by(h) + 1) % hermit[1] == 0;
            int fed = away ? sitter(hermit[6] + 1) : h;
            int worth = much * (1 + layer);
            if (day.heat < 20) {
                worth /= 2;
            }
            if (feast && layer == 4 && hermits.get(fed)[3] == 0) {
                worth = 0;
            }
            day.bites.add(new int[] {h, fed, layer, much, worth});
        }
    }

    private void pass(Outcome day, int beats) {
        day.turns++;
        day.beats += beats;
        day.heat = Math.max(0, day.heat - beats);
    }

    private int beatsOf(int h) {
        int[] hermit = hermits.get(h);
        return hermit[0] == 1 || hermit[0] == 4 ? hermit[1] : 1;
    }

    private Outcome day(String vow, int start, int fasts, int turnsAtMost, int taker) {
        Outcome day = new Outcome();
        day.heat = heat;
        int[] layers = soup.clone();
        int[] biting = new int[10];
        int seat = start;
        while (!over(day, layers) && day.turns < turnsAtMost) {
            int looked = 0;
            while (looked < hermits.size() && skipped(sitter(seat), vow, fasts, day)) {
                seat += way(vow);
                looked++;
            }
            if (looked == hermits.size()) {
                break;
            }
            int h = sitter(seat);
            int stirs = behind(vow, 't');
            if (stirs != 0 && (day.turns + 1) % stirs == 0) {
                for (int layer = 0; layer < 5; layer++) {
                    layers[layer] = day.left / 5 + (4 - layer < day.left % 5 ? 1 : 0);
                }
            } else {
                biting[h]++;
                bites(day, layers, h, biting[h], h == taker);
            }
            pass(day, beatsOf(h));
            seat += way(vow);
        }
        return day;
    }

    private Outcome schismOf(int start) {
        Outcome day = new Outcome();
        day.heat = heat;
        int[] layers = soup.clone();
        int[] biting = new int[10];
        int[] spoons = {start, start + hermits.size() / 2};
        int[] ways = {1, -1};
        boolean anyone = hermits.stream().anyMatch(h -> h[5] != -1);
        while (anyone && !over(day, layers)) {
            int spoon = day.turns % 2;
            while (skipped(sitter(spoons[spoon]), "l", 0, day)) {
                spoons[spoon] += ways[spoon];
            }
            int h = sitter(spoons[spoon]);
            if (h == sitter(spoons[1 - spoon])) {
                pass(day, 1);
            } else {
                biting[h]++;
                bites(day, layers, h, biting[h], false);
                pass(day, beatsOf(h));
            }
            spoons[spoon] += ways[spoon];
        }
        over(day, layers);
        return day;
    }

    private int leastBy(String vow, int seat) {
        Outcome day = day(vow, seat, 0, 999, NONE);
        int least = Integer.MAX_VALUE;
        for (int h = 0; h < hermits.size(); h++) {
            if (hermits.get(h)[5] != -1) {
                least = Math.min(least, day.meal(h) - hermits.get(h)[2]);
            }
        }
        return least == Integer.MAX_VALUE ? 0 : least;
    }

    private int lived(String vow, int seat, int fasts) {
        Outcome day = day(vow, seat, fasts, 999, NONE);
        int starved = 0;
        for (int h = 0; h < hermits.size(); h++) {
            int[] hermit = hermits.get(h);
            if (hermit[5] != -1) {
                hermit[5] = Math.max(-1, Math.min(99, hermit[5] + day.meal(h)) - hermit[2]);
                starved |= hermit[5] == -1 ? 1 << h : 0;
            }
        }
        return starved;
    }

    private boolean noVow(int vow) {
        return !in(vow, 0, vows.size() - 1);
    }

    private boolean noHermit(int hermit) {
        return !in(hermit, 0, hermits.size() - 1);
    }

    private boolean noFasts(int fasts) {
        return !in(fasts, 0, (1 << hermits.size()) - 1);
    }

    // ---- the face

    int letters(long w) {
        StringBuilder text = new StringBuilder();
        boolean ended = false;
        for (int i = 0; i < 8; i++) {
            int sign = (int) (w >> 8 * i) & 255;
            if (sign > 126 || ended && sign != 0) {
                return OUTSIDE;
            }
            ended |= sign == 0;
            text.append(ended ? "" : String.valueOf((char) sign));
        }
        if (page.length() + text.length() > 16) {
            return FULL;
        }
        page += text;
        return page.length();
    }

    int blank() {
        int had = page.length();
        page = "";
        return had;
    }

    private static List<String> allVows() {
        List<String> all = new ArrayList<>();
        for (String way : new String[] {"l", "r"}) {
            for (int t = 0; t <= 9; t++) {
                for (String deaf : new String[] {"", "d"}) {
                    for (int x = 0; x <= 9; x++) {
                        all.add(way + (t == 0 ? "" : "t" + t) + deaf + (x == 0 ? "" : "x" + x));
                    }
                }
            }
        }
        return all;
    }

    int fault() {
        for (int place = 0; place < page.length(); place++) {
            String start = page.substring(0, place + 1);
            if (allVows().stream().noneMatch(v -> v.startsWith(start))) {
                return place;
            }
        }
        return page.length();
    }

    int vow() {
        if (!allVows().contains(page)) {
            return STATE;
        }
        if (vows.size() == 6) {
            return FULL;
        }
        vows.add(page);
        page = "";
        return vows.size() - 1;
    }

    int vowTold(int vow, int what) {
        if (noVow(vow)) {
            return UNKNOWN;
        }
        String v = vows.get(vow);
        int[] told = {way(v) == 1 ? 1 : 0, behind(v, 't'), v.contains("d") ? 1 : 0, behind(v, 'x')};
        return in(what, 0, 3) ? told[what] : OUTSIDE;
    }

    int hermit(int kind, int n, int need, int teeth, int bite, int store) {
        boolean fits = kind == 0 && n == 0 || kind == 1 && in(n, 2, 4) || kind == 2 && n == 0
                || kind == 3 && in(n, 1, 4) || kind == 4 && in(n, 2, 4);
        if (!fits || !in(need, 1, 99) || !in(teeth, 0, 3) || !in(bite, 1, 9) || !in(store, 0, 99)) {
            return OUTSIDE;
        }
        if (hermits.size() == 10) {
            return FULL;
        }
        hermits.add(new int[] {kind, n, need, teeth, bite, store, hermits.size()});
        return hermits.size() - 1;
    }

    int as(int hermit, int kind) {
        if (noHermit(hermit)) {
            return UNKNOWN;
        }
        int own = hermits.get(hermit)[0];
        boolean is = kind == 0 || kind == own || kind == 1 && own == 4;
        return !in(kind, 0, 4) ? OUTSIDE : is ? hermit : NONE;
    }

    int about(int hermit, int what) {
        return noHermit(hermit) ? -1001 : in(what, 0, 6) ? hermits.get(hermit)[what] : -1002;
    }

    int store(int hermit, int v) {
        int was = about(hermit, in(v, 0, 99) ? 5 : 99);
        if (was >= -1) {
            hermits.get(hermit)[5] = v;
        }
        return was;
    }

    int change(int i, int j) {
        if (noHermit(i) || noHermit(j) || i == j) {
            return UNKNOWN;
        }
        int first = sitter(i);
        int second = sitter(j);
        hermits.get(first)[6] = j;
        hermits.get(second)[6] = i;
        return second;
    }

    int soup(int layer, int v) {
        if (!in(layer, 0, 4) || !in(v, 0, 99)) {
            return in(layer, 0, 4) ? OUTSIDE : UNKNOWN;
        }
        int was = soup[layer];
        soup[layer] = v;
        return was;
    }

    int heat(int v) {
        int was = heat;
        heat = in(v, 0, 300) ? v : heat;
        return in(v, 0, 300) ? was : OUTSIDE;
    }

    int feast(boolean is) {
        int was = feast ? 1 : 0;
        feast = is;
        return was;
    }

    int day(int vow, int seat, int fasts, int what) {
        if (noVow(vow) || noHermit(seat)) {
            return UNKNOWN;
        }
        if (noFasts(fasts) || !in(what, 0, 5)) {
            return OUTSIDE;
        }
        Outcome d = day(vows.get(vow), seat, fasts, 999, NONE);
        return new int[] {d.turns, d.beats, d.left, d.bites.size(), d.worth(), d.heat}[what];
    }

    int meal(int vow, int seat, int fasts, int hermit) {
        if (noVow(vow) || noHermit(seat) || noHermit(hermit)) {
            return UNKNOWN;
        }
        return noFasts(fasts) ? OUTSIDE : day(vows.get(vow), seat, fasts, 999, NONE).meal(hermit);
    }

    int bite(int vow, int seat, int fasts, int k, int what) {
        if (noVow(vow) || noHermit(seat)) {
            return UNKNOWN;
        }
        if (noFasts(fasts) || !in(k, 0, 599) || !in(what, 0, 4)) {
            return OUTSIDE;
        }
        Outcome d = day(vows.get(vow), seat, fasts, 999, NONE);
        return k < d.bites.size() ? d.bites.get(k)[what] : NONE;
    }

    int least(int vow, int seat) {
        return noVow(vow) || noHermit(seat) ? -1001 : leastBy(vows.get(vow), seat);
    }

    int bestStart(int vow) {
        if (noVow(vow) || hermits.isEmpty()) {
            return noVow(vow) ? UNKNOWN : STATE;
        }
        int best = hermits.size() - 1;
        for (int seat = best; seat >= 0; seat--) {
            best = least(vow, seat) >= least(vow, best) ? seat : best;
        }
        return best;
    }

    int bestSwap(int vow, int seat) {
        if (noVow(vow) || noHermit(seat)) {
            return UNKNOWN;
        }
        int best = NONE;
        int greatest = least(vow, seat) + 1;
        for (int i = hermits.size() - 1; i >= 0; i--) {
            for (int j = hermits.size() - 1; j > i; j--) {
                PlainModel other = copy();
                other.change(i, j);
                int least = other.leastBy(vows.get(vow), seat);
                if (least >= greatest) {
                    greatest = least;
                    best = 16 * i + j;
                }
            }
        }
        return best;
    }

    int bestStir(int vow, int seat) {
        if (noVow(vow) || noHermit(seat)) {
            return UNKNOWN;
        }
        String v = vows.get(vow);
        String rest = v.substring(v.contains("t") ? 3 : 1);
        int best = 9;
        int greatest = Integer.MIN_VALUE;
        for (int t = 9; t >= 0; t--) {
            int least = leastBy(v.charAt(0) + (t == 0 ? "" : "t" + t) + rest, seat);
            best = least >= greatest ? t : best;
            greatest = Math.max(least, greatest);
        }
        return best;
    }

    int live(int vow, int seat, int fasts) {
        if (noVow(vow) || noHermit(seat)) {
            return UNKNOWN;
        }
        return noFasts(fasts) ? OUTSIDE : lived(vows.get(vow), seat, fasts);
    }

    int starves(int vow, int seat, int hermit) {
        if (noVow(vow) || noHermit(seat) || noHermit(hermit)) {
            return UNKNOWN;
        }
        PlainModel other = copy();
        String v = vows.get(vow);
        for (int day = 0; day <= 60; day++) {
            if (other.hermits.get(hermit)[5] == -1) {
                return day;
            }
            other.lived(v, seat + day * way(v), 0);
        }
        return NONE;
    }

    int fasting(int vow, int seat, int days) {
        if (noVow(vow) || noHermit(seat)) {
            return UNKNOWN;
        }
        if (!in(days, 1, 30)) {
            return OUTSIDE;
        }
        String v = vows.get(vow);
        for (int k = 0; k < hermits.size(); k++) {
            PlainModel other = copy();
            int starved = 0;
            for (int day = 0; day < days && starved == 0; day++) {
                int fasts = 0;
                for (int i = 0; i < k; i++) {
                    fasts |= 1 << sitter(day * k + i);
                }
                starved = other.lived(v, seat + day * way(v), fasts);
            }
            if (starved == 0) {
                return k;
            }
        }
        return NONE;
    }

    int schism(int seat, int what) {
        if (noHermit(seat)) {
            return UNKNOWN;
        }
        if (!in(what, 0, 11)) {
            return OUTSIDE;
        }
        if (what < 10) {
            return noHermit(what) ? NONE : schismOf(seat).meal(what);
        }
        return what == 10 ? schismOf(seat).turns : schismOf(seat).left;
    }

    int twice(int vow, int seat, int turns, int left) {
        if (noVow(vow) || noHermit(seat)) {
            return UNKNOWN;
        }
        if (!in(turns, 1, 60) || !in(left, 0, 495)) {
            return OUTSIDE;
        }
        int bits = 0;
        for (int h = 0; h <= 10; h++) {
            if (h == 10 || !noHermit(h)) {
                bits |= day(vows.get(vow), seat, 0, turns, h).left == left ? 1 << h : 0;
            }
        }
        return bits;
    }

    int image() {
        kept = copy();
        return hermits.size();
    }

    int restore() {
        if (kept == null) {
            return STATE;
        }
        for (int h = 0; h < hermits.size(); h++) {
            if (h < kept.hermits.size()) {
                hermits.set(h, kept.hermits.get(h).clone());
            } else {
                hermits.get(h)[6] = h;
            }
        }
        soup = kept.soup.clone();
        heat = kept.heat;
        feast = kept.feast;
        return hermits.size();
    }

    int count(int what) {
        int starved = (int) hermits.stream().filter(h -> h[5] == -1).count();
        int[] counts = {hermits.size(), vows.size(), java.util.Arrays.stream(soup).sum(), heat, feast ? 1 : 0, starved,
            page.length()};
        return in(what, 0, 6) ? counts[what] : OUTSIDE;
    }

    long digest() {
        List<Integer> numbers = new ArrayList<>();
        for (int[] hermit : hermits) {
            for (int told : hermit) {
                numbers.add(told);
            }
        }
        for (int layer : soup) {
            numbers.add(layer);
        }
        for (int vow = 0; vow < vows.size(); vow++) {
            for (int what = 0; what < 4; what++) {
                numbers.add(vowTold(vow, what));
            }
            for (int what = 0; what < 6 && !hermits.isEmpty(); what++) {
                numbers.add(day(vow, 0, 0, what));
            }
            if (!hermits.isEmpty()) {
                numbers.add(least(vow, 0));
            }
        }
        page.chars().forEach(numbers::add);
        for (int what = 0; what < 7; what++) {
            numbers.add(count(what));
        }
        long h = 541;
        for (int number : numbers) {
            h = 31 * h + number;
        }
        return h;
    }
}
