import java.util.Arrays;

/**
 * Pieces cut out of plates so that their values are the most, and pieces cut off bars so that all
 * that are wanted are there for the least price. The document DOC.md says what each call promises.
 */
public final class CuttingRules {
    public static final int NONE = -1, UNKNOWN = -2, OUTSIDE = -3, ROOM = -4;

    private static final int MOST_SIDE = 16;
    private static final int MOST_KERF = 2;
    private static final int MOST_STAGES = 4;
    private static final int MOST_DEFECTS = 6;
    private static final int MOST_KINDS = 8;
    private static final int MOST_VALUE = 1000;
    private static final int PIECE_FACTS = 6;
    private static final int CUT_FACTS = 7;

    private static final int MOST_STOCKS = 3;
    private static final int MOST_ORDERS = 4;
    private static final int MOST_LENGTH = 99;
    private static final int MOST_PRICE = 100;
    private static final int MOST_DEMAND = 5;
    private static final int MOST_BLADE = 3;
    private static final int BAR_FACTS = 2 + MOST_ORDERS;

    private final Sheet sheet;
    private final Kinds kinds;
    private final Worths worths;
    private final Plan plan;
    private final Rack rack;
    private final BarList list;

    public CuttingRules() {
        Sheet newSheet = new Sheet();
        Kinds newKinds = new Kinds();
        Worths newWorths = new Worths(newSheet, newKinds);
        Rack newRack = new Rack();
        sheet = newSheet;
        kinds = newKinds;
        worths = newWorths;
        plan = new Plan(newSheet, newKinds, newWorths);
        rack = newRack;
        list = new BarList(newRack);
    }

    // ---- plates

    public int plate(int w, int h, int kerf, int stages, int first) {
        if (!within(w, 1, MOST_SIDE) || !within(h, 1, MOST_SIDE) || !within(kerf, 0, MOST_KERF)
                || !within(stages, 1, MOST_STAGES) || !within(first, 0, 1)) {
            return OUTSIDE;
        }
        sheet.become(w, h, kerf, stages, first);
        plan.forget();
        return 1;
    }

    public int defect(int x, int y, int w, int h) {
        if (!sheet.holds(x, y, w, h)) {
            return OUTSIDE;
        }
        if (!sheet.spoil(x, y, w, h)) {
            return ROOM;
        }
        plan.forget();
        return sheet.defects;
    }

    public int kind(int w, int h, int value, boolean turns) {
        if (!within(w, 1, MOST_SIDE) || !within(h, 1, MOST_SIDE) || !within(value, 1, MOST_VALUE)) {
            return OUTSIDE;
        }
        int number = kinds.add(w, h, value, turns);
        if (number != ROOM) {
            plan.forget();
        }
        return number;
    }

    public int value(int k, int v) {
        if (!within(k, 0, kinds.count - 1)) {
            return UNKNOWN;
        }
        if (!within(v, 1, MOST_VALUE)) {
            return OUTSIDE;
        }
        int was = kinds.values[k];
        kinds.values[k] = v;
        plan.forget();
        return was;
    }

    public int worth(int x, int y, int w, int h, int stage) {
        if (!sheet.holds(x, y, w, h) || !within(stage, 1, sheet.stages)) {
            return OUTSIDE;
        }
        worths.makeReady();
        return worths.of(x, y, w, h, stage);
    }

    public int pieces() {
        plan.makeReady();
        return plan.pieceCount;
    }

    public int piece(int i, int what) {
        if (!within(what, 0, PIECE_FACTS - 1)) {
            return OUTSIDE;
        }
        plan.makeReady();
        return within(i, 0, plan.pieceCount - 1) ? plan.pieceFacts[i * PIECE_FACTS + what] : NONE;
    }

    public int cuts() {
        plan.makeReady();
        return plan.cutCount;
    }

    public int cut(int i, int what) {
        if (!within(what, 0, CUT_FACTS - 1)) {
            return OUTSIDE;
        }
        plan.makeReady();
        return within(i, 0, plan.cutCount - 1) ? plan.cutFacts[i * CUT_FACTS + what] : NONE;
    }

    public int waste() {
        plan.makeReady();
        return plan.unused;
    }

    // ---- bars

    public int stock(int length, int price) {
        if (!within(length, 1, MOST_LENGTH) || !within(price, 1, MOST_PRICE)) {
            return OUTSIDE;
        }
        int number = rack.addStock(length, price);
        if (number != ROOM) {
            list.forgetCosts();
        }
        return number;
    }

    public int order(int length, int demand) {
        if (!within(length, 1, MOST_LENGTH) || !within(demand, 0, MOST_DEMAND)) {
            return OUTSIDE;
        }
        int number = rack.addOrder(length, demand);
        if (number != ROOM) {
            list.forgetCosts();
        }
        return number;
    }

    public int demand(int k, int n) {
        if (!within(k, 0, rack.orders - 1)) {
            return UNKNOWN;
        }
        if (!within(n, 0, MOST_DEMAND)) {
            return OUTSIDE;
        }
        int was = rack.demands[k];
        rack.demands[k] = n;
        list.forgetBars();
        return was;
    }

    public int blade(int n) {
        if (!within(n, 0, MOST_BLADE)) {
            return OUTSIDE;
        }
        int was = rack.blade;
        rack.blade = n;
        list.forgetCosts();
        return was;
    }

    public int price() {
        list.makeReady();
        return list.isShort ? NONE : list.priceTogether;
    }

    public int bars() {
        list.makeReady();
        return list.isShort ? NONE : list.count;
    }

    public int bar(int i, int what) {
        if (!within(what, 0, BAR_FACTS - 1)) {
            return OUTSIDE;
        }
        list.makeReady();
        return within(i, 0, list.count - 1) ? list.fact(list.patterns[i], what) : NONE;
    }

    public int told(int what) {
        switch (what) {
            case 0: return sheet.width;
            case 1: return sheet.height;
            case 2: return sheet.kerf;
            case 3: return sheet.stages;
            case 4: return sheet.first;
            case 5: return sheet.defects;
            case 6: return kinds.count;
            case 7: return rack.stocks;
            case 8: return rack.orders;
            case 9: return rack.blade;
            default: return OUTSIDE;
        }
    }

    public int noKinds() {
        int were = kinds.count;
        kinds.count = 0;
        plan.forget();
        return were;
    }

    public int noBars() {
        int were = rack.stocks + rack.orders;
        rack.stocks = 0;
        rack.orders = 0;
        list.forgetCosts();
        return were;
    }

    private static boolean within(int number, int least, int most) {
        return number >= least && number <= most;
    }

    /** The plate and what is spoiled of it. */
    private static final class Sheet {
        private static final int SIDES = 4;

        int width = 1;
        int height = 1;
        int kerf = 0;
        int stages = 1;
        int first = 0;
        int defects = 0;
        final int[] spoiled = new int[MOST_DEFECTS * SIDES];

        void become(int w, int h, int newKerf, int newStages, int newFirst) {
            width = w;
            height = h;
            kerf = newKerf;
            stages = newStages;
            first = newFirst;
            defects = 0;
        }

        // What is left of the side is compared, not x + w, as that could overflow.
        boolean holds(int x, int y, int w, int h) {
            return within(x, 0, width - 1) && within(y, 0, height - 1)
                    && within(w, 1, width - x) && within(h, 1, height - y);
        }

        boolean spoil(int x, int y, int w, int h) {
            if (defects >= MOST_DEFECTS) {
                return false;
            }
            int row = defects * SIDES;
            spoiled[row] = x;
            spoiled[row + 1] = y;
            spoiled[row + 2] = x + w;
            spoiled[row + 3] = y + h;
            defects++;
            return true;
        }

        boolean isClean(int x, int y, int w, int h) {
            for (int i = 0; i < defects && i < MOST_DEFECTS; i++) {
                int row = i * SIDES;
                if (x < spoiled[row + 2] && spoiled[row] < x + w
                        && y < spoiled[row + 3] && spoiled[row + 1] < y + h) {
                    return false;
                }
            }
            return true;
        }

        boolean partsWidth(int stage) {
            return ((first + stage - 1) & 1) == 0;
        }

        /** The last c at which a cut of a side leaves something behind the kerf; below 1: none. */
        int lastCut(int w, int h, int stage) {
            return (partsWidth(stage) ? w : h) - kerf - 1;
        }
    }

    /** The kinds of pieces. */
    private static final class Kinds {
        int count = 0;
        final int[] widths = new int[MOST_KINDS];
        final int[] heights = new int[MOST_KINDS];
        final int[] values = new int[MOST_KINDS];
        final boolean[] turning = new boolean[MOST_KINDS];

        int add(int w, int h, int value, boolean turns) {
            if (count >= MOST_KINDS) {
                return ROOM;
            }
            widths[count] = w;
            heights[count] = h;
            values[count] = value;
            turning[count] = turns;
            count++;
            return count - 1;
        }

        boolean lies(int k, int w, int h) {
            return widths[k] == w && heights[k] == h;
        }

        boolean liesTurned(int k, int w, int h) {
            return turning[k] && widths[k] == h && heights[k] == w;
        }

        int mostValue(int w, int h) {
            int most = 0;
            for (int k = 0; k < count && k < MOST_KINDS; k++) {
                if (lies(k, w, h) || liesTurned(k, w, h)) {
                    most = Math.max(most, values[k]);
                }
            }
            return most;
        }

        int firstOfValue(int w, int h, int value) {
            for (int k = 0; k < count && k < MOST_KINDS; k++) {
                if (values[k] == value && (lies(k, w, h) || liesTurned(k, w, h))) {
                    return k;
                }
            }
            return NONE;
        }
    }

    /**
     * The worths of all parts, worked out when they are first asked for after a change. All clean
     * parts of one size and stage are worth the same, so these share a small table; where nothing
     * is spoiled it is the only one, and elsewhere it bounds what a spoiled part can be worth.
     */
    private static final class Worths {
        private static final int SPANS = MOST_SIDE * (MOST_SIDE + 1) / 2;

        final Sheet sheet;
        final Kinds kinds;
        final int[] ofSizes = new int[MOST_STAGES * MOST_SIDE * MOST_SIDE];
        final int[] ofParts = new int[MOST_STAGES * SPANS * SPANS];
        boolean stale = true;

        Worths(Sheet theSheet, Kinds theKinds) {
            sheet = theSheet;
            kinds = theKinds;
        }

        void forget() {
            stale = true;
        }

        void makeReady() {
            if (!stale) {
                return;
            }
            fillSizes();
            if (sheet.defects > 0) {
                fillParts();
            }
            stale = false;
        }

        int of(int x, int y, int w, int h, int stage) {
            if (sheet.defects == 0) {
                return ofSize(w, h, stage);
            }
            int slot = partSlot(stage, span(x, x + w), span(y, y + h));
            return within(slot, 0, ofParts.length - 1) ? ofParts[slot] : 0;
        }

        // A part's worth takes those of smaller sizes and of later stages: these come first.
        private void fillSizes() {
            for (int stage = sheet.stages; stage >= 1; stage--) {
                for (int w = 1; w <= sheet.width; w++) {
                    for (int h = 1; h <= sheet.height; h++) {
                        int slot = sizeSlot(w, h, stage);
                        if (within(slot, 0, ofSizes.length - 1)) {
                            ofSizes[slot] = mostOfSize(w, h, stage);
                        }
                    }
                }
            }
        }

        private int mostOfSize(int w, int h, int stage) {
            int most = Math.max(kinds.mostValue(w, h), ofSize(w, h, stage + 1));
            int last = sheet.lastCut(w, h, stage);
            boolean partsWidth = sheet.partsWidth(stage);
            for (int c = 1; c <= last; c++) {
                int behind = c + sheet.kerf;
                int sum = partsWidth
                        ? ofSize(c, h, stage) + ofSize(w - behind, h, stage)
                        : ofSize(w, c, stage) + ofSize(w, h - behind, stage);
                most = Math.max(most, sum);
            }
            return most;
        }

        private int ofSize(int w, int h, int stage) {
            int slot = sizeSlot(w, h, stage);
            return stage <= sheet.stages && within(slot, 0, ofSizes.length - 1) ? ofSizes[slot] : 0;
        }

        private static int sizeSlot(int w, int h, int stage) {
            return ((stage - 1) * MOST_SIDE + w - 1) * MOST_SIDE + h - 1;
        }

        // Both parts of a cut come ahead of what is cut: one ends sooner, one begins later.
        private void fillParts() {
            for (int right = 1; right <= sheet.width; right++) {
                for (int left = right - 1; left >= 0; left--) {
                    for (int bottom = 1; bottom <= sheet.height; bottom++) {
                        for (int top = bottom - 1; top >= 0; top--) {
                            fillPart(left, top, right - left, bottom - top);
                        }
                    }
                }
            }
        }

        private void fillPart(int x, int y, int w, int h) {
            boolean isClean = sheet.isClean(x, y, w, h);
            int across = span(x, x + w);
            int down = span(y, y + h);
            int later = 0;
            for (int stage = sheet.stages; stage >= 1; stage--) {
                int worth = ofSize(w, h, stage);
                if (!isClean && worth > later) {
                    int ofCuts = sheet.partsWidth(stage)
                            ? mostOfCuts(partSlot(stage, 0, down), SPANS, x, x + w, worth)
                            : mostOfCuts(partSlot(stage, across, 0), 1, y, y + h, worth);
                    worth = Math.max(later, ofCuts);
                }
                int slot = partSlot(stage, across, down);
                if (within(slot, 0, ofParts.length - 1)) {
                    ofParts[slot] = worth;
                }
                later = worth;
            }
        }

        /**
         * The most that cuts of a side's stretch lead to, or the bound once it is reached. The base
         * is the slot of the stretch 0, the unit is how far apart the slots of two stretches are.
         */
        private int mostOfCuts(int base, int unit, int start, int end, int bound) {
            // The last stretch of all is the one with the greatest slot.
            if (base < 0 || base + unit * span(end - 1, end) >= ofParts.length) {
                return 0;
            }
            int ahead = base + unit * span(start, start + 1);
            int behind = base + unit * span(start + 1 + sheet.kerf, end);
            int most = 0;
            for (int at = start + 1; at + sheet.kerf < end && most < bound; at++) {
                int sum = ofParts[ahead] + ofParts[behind];
                if (sum > most) {
                    most = sum;
                }
                // As span() numbers them, the stretch that ends one further is this far off.
                ahead += unit * at;
                behind += unit;
            }
            return most;
        }

        // Numbers the stretches of a side without gaps: by their ends, then by their starts.
        private static int span(int start, int end) {
            return end * (end - 1) / 2 + start;
        }

        private static int partSlot(int stage, int across, int down) {
            return ((stage - 1) * SPANS + across) * SPANS + down;
        }
    }

    /** The plan for the whole plate, made when it is first asked for after a change. */
    private static final class Plan {
        // A piece has a cell at least, and so has each part that the cuts leave.
        private static final int MOST_PIECES = MOST_SIDE * MOST_SIDE;
        private static final int MOST_CUTS = MOST_PIECES - 1;
        // Each level further down has a side that is shorter, or a later stage.
        private static final int MOST_LEVELS = 2 * (MOST_SIDE - 1) + MOST_STAGES;

        final Sheet sheet;
        final Kinds kinds;
        final Worths worths;
        final int[] pieceFacts = new int[MOST_PIECES * PIECE_FACTS];
        final int[] cutFacts = new int[MOST_CUTS * CUT_FACTS];
        int pieceCount = 0;
        int cutCount = 0;
        int unused = 0;
        boolean stale = true;

        Plan(Sheet theSheet, Kinds theKinds, Worths theWorths) {
            sheet = theSheet;
            kinds = theKinds;
            worths = theWorths;
        }

        void forget() {
            stale = true;
            worths.forget();
        }

        void makeReady() {
            if (!stale) {
                return;
            }
            worths.makeReady();
            pieceCount = 0;
            cutCount = 0;
            unused = sheet.width * sheet.height;
            lay(0, 0, sheet.width, sheet.height, 1, 1);
            stale = false;
        }

        private void lay(int x, int y, int w, int h, int stage, int level) {
            int worth = worths.of(x, y, w, h, stage);
            if (worth == 0 || level > MOST_LEVELS) {
                return;
            }
            int kind = sheet.isClean(x, y, w, h) ? kinds.firstOfValue(w, h, worth) : NONE;
            if (kind != NONE) {
                addPiece(kind, x, y, w, h);
                return;
            }
            int c = firstCut(x, y, w, h, stage, worth);
            if (c != NONE) {
                addCut(x, y, w, h, stage, c);
                layBoth(x, y, w, h, stage, c, level + 1);
            } else if (stage < sheet.stages) {
                lay(x, y, w, h, stage + 1, level + 1);
            }
        }

        private void layBoth(int x, int y, int w, int h, int stage, int c, int level) {
            int behind = c + sheet.kerf;
            if (sheet.partsWidth(stage)) {
                lay(x, y, c, h, stage, level);
                lay(x + behind, y, w - behind, h, stage, level);
            } else {
                lay(x, y, w, c, stage, level);
                lay(x, y + behind, w, h - behind, stage, level);
            }
        }

        private int firstCut(int x, int y, int w, int h, int stage, int worth) {
            int last = sheet.lastCut(w, h, stage);
            boolean partsWidth = sheet.partsWidth(stage);
            for (int c = 1; c <= last; c++) {
                int behind = c + sheet.kerf;
                int sum = partsWidth
                        ? worths.of(x, y, c, h, stage) + worths.of(x + behind, y, w - behind, h, stage)
                        : worths.of(x, y, w, c, stage) + worths.of(x, y + behind, w, h - behind, stage);
                if (sum == worth) {
                    return c;
                }
            }
            return NONE;
        }

        private void addPiece(int kind, int x, int y, int w, int h) {
            if (pieceCount >= MOST_PIECES) {
                return;
            }
            int row = pieceCount * PIECE_FACTS;
            pieceFacts[row] = kind;
            pieceFacts[row + 1] = x;
            pieceFacts[row + 2] = y;
            pieceFacts[row + 3] = w;
            pieceFacts[row + 4] = h;
            pieceFacts[row + 5] = kinds.lies(kind, w, h) ? 0 : 1;
            pieceCount++;
            unused -= w * h;
        }

        private void addCut(int x, int y, int w, int h, int stage, int c) {
            if (cutCount >= MOST_CUTS) {
                return;
            }
            boolean partsWidth = sheet.partsWidth(stage);
            int row = cutCount * CUT_FACTS;
            cutFacts[row] = stage;
            cutFacts[row + 1] = partsWidth ? 0 : 1;
            cutFacts[row + 2] = (partsWidth ? x : y) + c;
            cutFacts[row + 3] = x;
            cutFacts[row + 4] = y;
            cutFacts[row + 5] = w;
            cutFacts[row + 6] = h;
            cutCount++;
        }
    }

    /** The stocks, the orders and the blade. */
    private static final class Rack {
        int stocks = 0;
        int orders = 0;
        int blade = 0;
        final int[] stockLengths = new int[MOST_STOCKS];
        final int[] stockPrices = new int[MOST_STOCKS];
        final int[] orderLengths = new int[MOST_ORDERS];
        final int[] demands = new int[MOST_ORDERS];

        int addStock(int length, int price) {
            if (stocks >= MOST_STOCKS) {
                return ROOM;
            }
            stockLengths[stocks] = length;
            stockPrices[stocks] = price;
            stocks++;
            return stocks - 1;
        }

        int addOrder(int length, int demand) {
            if (orders >= MOST_ORDERS) {
                return ROOM;
            }
            orderLengths[orders] = length;
            demands[orders] = demand;
            orders++;
            return orders - 1;
        }

        int wantedOf(int k) {
            return k < orders && k < MOST_ORDERS ? demands[k] : 0;
        }

        int stockFor(int length) {
            int best = NONE;
            for (int s = 0; s < stocks && s < MOST_STOCKS; s++) {
                if (stockLengths[s] >= length && (best == NONE || stockPrices[s] < stockPrices[best])) {
                    best = s;
                }
            }
            return best;
        }
    }

    /**
     * The list of bars. How many of each order there are, on a bar or still to come, is held as
     * one number, three bits an order and order 0 the highest: so the greatest pattern is the
     * greatest number, and what is left behind a bar is a difference.
     */
    private static final class BarList {
        private static final int ORDER_BITS = 3;
        private static final int ORDER_MASK = (1 << ORDER_BITS) - 1;
        private static final int CODES = 1 << (ORDER_BITS * MOST_ORDERS);
        private static final int MOST_BARS = MOST_ORDERS * MOST_DEMAND;
        // A cost is a price times this and how many bars, so that prices come ahead of bars.
        private static final int PRICE_UNIT = MOST_BARS + 1;
        // More than any list costs, and so small that two of them do not overflow.
        private static final int NEVER = 1 << 20;

        final Rack rack;
        // By the code: of all the pieces on one bar; of all of them on bars, 0 while not worked out.
        final int[] barCosts = new int[CODES];
        final int[] leastCosts = new int[CODES];
        final int[] firstPatterns = new int[CODES];
        final int[] patterns = new int[MOST_BARS];
        int count = 0;
        int priceTogether = 0;
        boolean isShort = false;
        boolean costsStale = true;
        boolean barsStale = true;

        BarList(Rack theRack) {
            rack = theRack;
        }

        void forgetCosts() {
            costsStale = true;
            barsStale = true;
        }

        // The costs are those of all numbers of pieces, so a demand does not change them.
        void forgetBars() {
            barsStale = true;
        }

        void makeReady() {
            if (!barsStale) {
                return;
            }
            if (costsStale) {
                Arrays.fill(leastCosts, 0);
                costsStale = false;
            }
            findLeastCosts();
            takeBars(code(rack.wantedOf(0), rack.wantedOf(1), rack.wantedOf(2), rack.wantedOf(3)));
            barsStale = false;
        }

        // Smaller numbers of pieces come first, as the costs of larger ones take theirs.
        private void findLeastCosts() {
            for (int a = 0; a <= rack.wantedOf(0); a++) {
                for (int b = 0; b <= rack.wantedOf(1); b++) {
                    for (int c = 0; c <= rack.wantedOf(2); c++) {
                        for (int d = 0; d <= rack.wantedOf(3); d++) {
                            findLeastCost(a, b, c, d);
                        }
                    }
                }
            }
        }

        private void findLeastCost(int a, int b, int c, int d) {
            int wanted = code(a, b, c, d);
            if (!within(wanted, 1, CODES - 1) || leastCosts[wanted] != 0) {
                return;
            }
            barCosts[wanted] = barCost(wanted);
            leastCosts[wanted] = NEVER;
            for (int i = 0; i <= a; i++) {
                for (int j = 0; j <= b; j++) {
                    for (int k = 0; k <= c; k++) {
                        tryFirstBars(wanted, code(i, j, k, 0), d);
                    }
                }
            }
        }

        // The patterns come in rising order, so that of equal ones the greatest stays.
        private void tryFirstBars(int wanted, int begun, int mostOfLast) {
            int last = begun + mostOfLast;
            if (begun < 0 || last > wanted || wanted >= CODES) {
                return;
            }
            // Where one is too long for each stock, so are those with more of the last order.
            for (int pattern = Math.max(begun, 1); pattern <= last && barCosts[pattern] < NEVER; pattern++) {
                int cost = barCosts[pattern] + leastCosts[wanted - pattern];
                if (cost <= leastCosts[wanted]) {
                    leastCosts[wanted] = cost;
                    firstPatterns[wanted] = pattern;
                }
            }
        }

        private int barCost(int pattern) {
            int stock = rack.stockFor(lengthWanted(pattern));
            return stock == NONE ? NEVER : rack.stockPrices[stock] * PRICE_UNIT + 1;
        }

        private void takeBars(int wanted) {
            count = 0;
            priceTogether = 0;
            isShort = !within(wanted, 0, CODES - 1) || leastCosts[wanted] >= NEVER;
            if (isShort) {
                return;
            }
            priceTogether = leastCosts[wanted] / PRICE_UNIT;
            int left = wanted;
            while (count < MOST_BARS && within(left, 1, CODES - 1)) {
                patterns[count] = firstPatterns[left];
                left -= firstPatterns[left];
                count++;
            }
        }

        int fact(int pattern, int what) {
            if (what >= 2) {
                return numberOf(pattern, what - 2);
            }
            int wants = lengthWanted(pattern);
            int stock = rack.stockFor(wants);
            if (stock == NONE || what == 0) {
                return stock;
            }
            return rack.stockLengths[stock] - wants;
        }

        private int lengthWanted(int pattern) {
            int length = -rack.blade;
            for (int k = 0; k < rack.orders && k < MOST_ORDERS; k++) {
                length += numberOf(pattern, k) * (rack.orderLengths[k] + rack.blade);
            }
            return length;
        }

        private static int numberOf(int pattern, int k) {
            return pattern >> ((MOST_ORDERS - 1 - k) * ORDER_BITS) & ORDER_MASK;
        }

        private static int code(int a, int b, int c, int d) {
            return ((a << ORDER_BITS | b) << ORDER_BITS | c) << ORDER_BITS | d;
        }
    }
}
