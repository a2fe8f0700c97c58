import java.util.ArrayList;
import java.util.HashMap;
import java.util.List;
import java.util.Map;

/** The document word by word, without regard to speed: what CuttingRules is compared with. */
final class Model {
    static final int NONE = -1, UNKNOWN = -2, OUTSIDE = -3, ROOM = -4;

    private record Kind(int w, int h, int value, boolean turns) {
    }

    // How many lists there can be grows so fast that beyond this not all of them are looked through.
    private static final int MOST_TRIED = 8;

    private int width = 1, height = 1, kerf = 0, stages = 1, first = 0, defects = 0, blade = 0;
    private boolean[][] spoiled = new boolean[16][16];
    private final List<Kind> kinds = new ArrayList<>();
    private final List<int[]> stocks = new ArrayList<>();
    private final List<int[]> orders = new ArrayList<>();

    private final Map<List<Integer>, Integer> worths = new HashMap<>();
    private List<int[]> pieces, cuts;
    private List<int[]> bestBars;
    private int bestPrice;
    private boolean listKnown = false;

    private static boolean in(int n, int least, int most) {
        return n >= least && n <= most;
    }

    private void plateChanged() {
        worths.clear();
        pieces = null;
        cuts = null;
    }

    int plate(int w, int h, int newKerf, int newStages, int newFirst) {
        if (!in(w, 1, 16) || !in(h, 1, 16) || !in(newKerf, 0, 2) || !in(newStages, 1, 4) || !in(newFirst, 0, 1)) {
            return OUTSIDE;
        }
        width = w;
        height = h;
        kerf = newKerf;
        stages = newStages;
        first = newFirst;
        defects = 0;
        spoiled = new boolean[16][16];
        plateChanged();
        return 1;
    }

    private boolean liesInPlate(int x, int y, int w, int h) {
        return x >= 0 && y >= 0 && w >= 1 && h >= 1 && (long) x + w <= width && (long) y + h <= height;
    }

    int defect(int x, int y, int w, int h) {
        if (!liesInPlate(x, y, w, h)) {
            return OUTSIDE;
        }
        if (defects == 6) {
            return ROOM;
        }
        for (int i = x; i < x + w; i++) {
            for (int j = y; j < y + h; j++) {
                spoiled[i][j] = true;
            }
        }
        plateChanged();
        return ++defects;
    }

    int kind(int w, int h, int value, boolean turns) {
        if (!in(w, 1, 16) || !in(h, 1, 16) || !in(value, 1, 1000)) {
            return OUTSIDE;
        }
        if (kinds.size() == 8) {
            return ROOM;
        }
        kinds.add(new Kind(w, h, value, turns));
        plateChanged();
        return kinds.size() - 1;
    }

    int value(int k, int v) {
        if (!in(k, 0, kinds.size() - 1)) {
            return UNKNOWN;
        }
        if (!in(v, 1, 1000)) {
            return OUTSIDE;
        }
        Kind was = kinds.get(k);
        kinds.set(k, new Kind(was.w, was.h, v, was.turns));
        plateChanged();
        return was.value;
    }

    int worth(int x, int y, int w, int h, int stage) {
        return liesInPlate(x, y, w, h) && in(stage, 1, stages) ? worthOf(x, y, w, h, stage) : OUTSIDE;
    }

    private boolean clean(int x, int y, int w, int h) {
        for (int i = x; i < x + w; i++) {
            for (int j = y; j < y + h; j++) {
                if (spoiled[i][j]) {
                    return false;
                }
            }
        }
        return true;
    }

    private int direction(int stage) {
        return stage % 2 == 1 ? first : 1 - first;
    }

    /** The two parts of a cut, each as x, y, w, h. */
    private int[][] parts(int x, int y, int w, int h, int stage, int c) {
        if (direction(stage) == 0) {
            return new int[][] {{x, y, c, h}, {x + c + kerf, y, w - c - kerf, h}};
        }
        return new int[][] {{x, y, w, c}, {x, y + c + kerf, w, h - c - kerf}};
    }

    private int sumOfCut(int x, int y, int w, int h, int stage, int c) {
        int sum = 0;
        for (int[] p : parts(x, y, w, h, stage, c)) {
            sum += worthOf(p[0], p[1], p[2], p[3], stage);
        }
        return sum;
    }

    private int worthOf(int x, int y, int w, int h, int stage) {
        List<Integer> key = List.of(x, y, w, h, stage);
        Integer known = worths.get(key);
        if (known != null) {
            return known;
        }
        int most = 0;
        if (clean(x, y, w, h)) {
            for (Kind k : kinds) {
                if (k.w == w && k.h == h || k.turns && k.w == h && k.h == w) {
                    most = Math.max(most, k.value);
                }
            }
        }
        int side = direction(stage) == 0 ? w : h;
        for (int c = 1; side - c - kerf >= 1; c++) {
            most = Math.max(most, sumOfCut(x, y, w, h, stage, c));
        }
        if (stage < stages) {
            most = Math.max(most, worthOf(x, y, w, h, stage + 1));
        }
        worths.put(key, most);
        return most;
    }

    private void plan() {
        if (pieces == null) {
            pieces = new ArrayList<>();
            cuts = new ArrayList<>();
            plan(0, 0, width, height, 1);
        }
    }

    private void plan(int x, int y, int w, int h, int stage) {
        int worth = worthOf(x, y, w, h, stage);
        if (worth == 0) {
            return;
        }
        for (int k = 0; k < kinds.size() && clean(x, y, w, h); k++) {
            Kind kind = kinds.get(k);
            for (int turned = 0; turned <= (kind.turns ? 1 : 0); turned++) {
                int kw = turned == 0 ? kind.w : kind.h;
                int kh = turned == 0 ? kind.h : kind.w;
                if (kind.value == worth && kw == w && kh == h) {
                    pieces.add(new int[] {k, x, y, w, h, turned});
                    return;
                }
            }
        }
        int direction = direction(stage);
        int side = direction == 0 ? w : h;
        for (int c = 1; side - c - kerf >= 1; c++) {
            if (sumOfCut(x, y, w, h, stage, c) == worth) {
                cuts.add(new int[] {stage, direction, (direction == 0 ? x : y) + c, x, y, w, h});
                for (int[] p : parts(x, y, w, h, stage, c)) {
                    plan(p[0], p[1], p[2], p[3], stage);
                }
                return;
            }
        }
        plan(x, y, w, h, stage + 1);
    }

    int pieces() {
        plan();
        return pieces.size();
    }

    int piece(int i, int what) {
        plan();
        return !in(what, 0, 5) ? OUTSIDE : !in(i, 0, pieces.size() - 1) ? NONE : pieces.get(i)[what];
    }

    int cuts() {
        plan();
        return cuts.size();
    }

    int cut(int i, int what) {
        plan();
        return !in(what, 0, 6) ? OUTSIDE : !in(i, 0, cuts.size() - 1) ? NONE : cuts.get(i)[what];
    }

    int waste() {
        plan();
        boolean[][] used = new boolean[width][height];
        for (int[] p : pieces) {
            for (int i = p[1]; i < p[1] + p[3]; i++) {
                for (int j = p[2]; j < p[2] + p[4]; j++) {
                    used[i][j] = true;
                }
            }
        }
        int cells = 0;
        for (boolean[] column : used) {
            for (boolean cell : column) {
                cells += cell ? 0 : 1;
            }
        }
        return cells;
    }

    int stock(int length, int price) {
        if (!in(length, 1, 99) || !in(price, 1, 100)) {
            return OUTSIDE;
        }
        if (stocks.size() == 3) {
            return ROOM;
        }
        stocks.add(new int[] {length, price});
        listKnown = false;
        return stocks.size() - 1;
    }

    int order(int length, int demand) {
        if (!in(length, 1, 99) || !in(demand, 0, 5)) {
            return OUTSIDE;
        }
        if (orders.size() == 4) {
            return ROOM;
        }
        orders.add(new int[] {length, demand});
        listKnown = false;
        return orders.size() - 1;
    }

    int demand(int k, int n) {
        if (!in(k, 0, orders.size() - 1)) {
            return UNKNOWN;
        }
        if (!in(n, 0, 5)) {
            return OUTSIDE;
        }
        int was = orders.get(k)[1];
        orders.get(k)[1] = n;
        listKnown = false;
        return was;
    }

    int blade(int n) {
        if (!in(n, 0, 3)) {
            return OUTSIDE;
        }
        int was = blade;
        blade = n;
        listKnown = false;
        return was;
    }

    /** How many pieces are wanted of all orders together. */
    int wanted() {
        int sum = 0;
        for (int[] o : orders) {
            sum += o[1];
        }
        return sum;
    }

    private int wants(int[] pattern) {
        int length = 0;
        int count = 0;
        for (int k = 0; k < orders.size(); k++) {
            length += pattern[k] * orders.get(k)[0];
            count += pattern[k];
        }
        return length + blade * (count - 1);
    }

    private int stockOf(int[] pattern) {
        int wants = wants(pattern);
        int best = NONE;
        for (int s = stocks.size() - 1; s >= 0; s--) {
            if (stocks.get(s)[0] >= wants && (best == NONE || stocks.get(s)[1] <= stocks.get(best)[1])) {
                best = s;
            }
        }
        return best;
    }

    private void list() {
        if (!listKnown) {
            bestBars = null;
            bestPrice = 0;
            int[] left = new int[4];
            for (int k = 0; k < orders.size(); k++) {
                left[k] = orders.get(k)[1];
            }
            if (wanted() <= MOST_TRIED) {
                tryLists(left, new ArrayList<>(), 0);
            } else {
                takeBest(left);
            }
            listKnown = true;
        }
    }

    /** All lists whose patterns do not rise: of each set of bars the one that is the greatest. */
    private void tryLists(int[] left, List<int[]> bars, int price) {
        if (wanted(left) == 0) {
            if (bestBars == null || better(price, bars)) {
                bestBars = new ArrayList<>(bars);
                bestPrice = price;
            }
            return;
        }
        for (int a = 0; a <= left[0]; a++) {
            for (int b = 0; b <= left[1]; b++) {
                for (int c = 0; c <= left[2]; c++) {
                    for (int d = 0; d <= left[3]; d++) {
                        tryBar(new int[] {a, b, c, d}, left, bars, price);
                    }
                }
            }
        }
    }

    private void tryBar(int[] pattern, int[] left, List<int[]> bars, int price) {
        boolean empty = wanted(pattern) == 0;
        boolean rises = !bars.isEmpty() && compare(pattern, bars.get(bars.size() - 1)) > 0;
        if (empty || rises || stockOf(pattern) == NONE) {
            return;
        }
        int[] then = new int[4];
        for (int k = 0; k < 4; k++) {
            then[k] = left[k] - pattern[k];
        }
        bars.add(pattern);
        tryLists(then, bars, price + stocks.get(stockOf(pattern))[1]);
        bars.remove(bars.size() - 1);
    }

    private static int compare(int[] p, int[] q) {
        for (int k = 0; k < 4; k++) {
            if (p[k] != q[k]) {
                return p[k] - q[k];
            }
        }
        return 0;
    }

    /** A list of bars: its first one and the rest. */
    private record Bars(int price, int count, int[] pattern, Bars rest) {
    }

    /** The best list that begins with a pattern has the best one of what is left behind it. */
    private void takeBest(int[] left) {
        Bars best = best(left, new HashMap<>());
        bestBars = best == null ? null : new ArrayList<>();
        bestPrice = best == null ? 0 : best.price;
        for (Bars bars = best; bars != null && bars.count > 0; bars = bars.rest) {
            bestBars.add(bars.pattern);
        }
    }

    private Bars best(int[] left, Map<List<Integer>, Bars> known) {
        List<Integer> key = List.of(left[0], left[1], left[2], left[3]);
        if (known.containsKey(key)) {
            return known.get(key);
        }
        Bars best = wanted(left) == 0 ? new Bars(0, 0, null, null) : null;
        for (int a = 0; a <= left[0]; a++) {
            for (int b = 0; b <= left[1]; b++) {
                for (int c = 0; c <= left[2]; c++) {
                    for (int d = 0; d <= left[3]; d++) {
                        best = betterOf(best, begun(new int[] {a, b, c, d}, left, known));
                    }
                }
            }
        }
        known.put(key, best);
        return best;
    }

    private Bars begun(int[] pattern, int[] left, Map<List<Integer>, Bars> known) {
        int stock = wanted(pattern) == 0 ? NONE : stockOf(pattern);
        if (stock == NONE) {
            return null;
        }
        int[] then = {left[0] - pattern[0], left[1] - pattern[1], left[2] - pattern[2], left[3] - pattern[3]};
        Bars rest = best(then, known);
        return rest == null ? null : new Bars(stocks.get(stock)[1] + rest.price, 1 + rest.count, pattern, rest);
    }

    private static Bars betterOf(Bars one, Bars other) {
        if (one == null || other == null) {
            return one == null ? other : one;
        }
        if (one.price != other.price) {
            return one.price < other.price ? one : other;
        }
        if (one.count != other.count) {
            return one.count < other.count ? one : other;
        }
        Bars p = one;
        for (Bars q = other; q.count > 0; q = q.rest) {
            int difference = compare(p.pattern, q.pattern);
            if (difference != 0) {
                return difference > 0 ? one : other;
            }
            p = p.rest;
        }
        return one;
    }

    private static int wanted(int[] numbers) {
        return numbers[0] + numbers[1] + numbers[2] + numbers[3];
    }

    private boolean better(int price, List<int[]> bars) {
        if (price != bestPrice) {
            return price < bestPrice;
        }
        if (bars.size() != bestBars.size()) {
            return bars.size() < bestBars.size();
        }
        for (int i = 0; i < bars.size(); i++) {
            int difference = compare(bars.get(i), bestBars.get(i));
            if (difference != 0) {
                return difference > 0;
            }
        }
        return false;
    }

    int price() {
        list();
        return bestBars == null ? NONE : bestPrice;
    }

    int bars() {
        list();
        return bestBars == null ? NONE : bestBars.size();
    }

    int bar(int i, int what) {
        if (!in(what, 0, 5)) {
            return OUTSIDE;
        }
        list();
        if (bestBars == null || !in(i, 0, bestBars.size() - 1)) {
            return NONE;
        }
        int[] pattern = bestBars.get(i);
        int stock = stockOf(pattern);
        return what == 0 ? stock : what == 1 ? stocks.get(stock)[0] - wants(pattern) : pattern[what - 2];
    }

    int told(int what) {
        int[] all = {width, height, kerf, stages, first, defects, kinds.size(), stocks.size(), orders.size(), blade};
        return in(what, 0, 9) ? all[what] : OUTSIDE;
    }

    int noKinds() {
        int were = kinds.size();
        kinds.clear();
        plateChanged();
        return were;
    }

    int noBars() {
        int were = stocks.size() + orders.size();
        stocks.clear();
        orders.clear();
        listKnown = false;
        return were;
    }
}
