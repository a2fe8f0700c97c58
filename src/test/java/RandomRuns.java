import java.util.Random;

/** Runs of calls, right and wrong ones, on the program and on the model: the answers are the same. */
public final class RandomRuns {
    // What is answered behind the 512th call is free; a list of 20 bars and a change take 129 calls.
    private static final int MOST_CALLS = 512 - 129;
    private static final int[] FAR = {Integer.MIN_VALUE, Integer.MAX_VALUE, -1000, 100000, -2, 17, 1 << 30};

    private final Random random;
    private final CuttingRules x = new CuttingRules();
    private final Model m = new Model();
    private final String run;
    private final int mostSide;
    private final boolean manyTies;
    private int made = 0;

    private RandomRuns(long seed, int mostSide) {
        this.random = new Random(seed);
        this.run = "run " + seed;
        this.mostSide = mostSide;
        this.manyTies = seed % 2 == 0;
    }

    public static void main(String[] args) {
        for (int seed = 1; seed <= 600; seed++) {
            new RandomRuns(seed, 1 + seed % 9).calls();
        }
        for (int seed = 1001; seed <= 1024; seed++) {
            new RandomRuns(seed, 16).calls();
        }
        for (int seed = 2001; seed <= 2400; seed++) {
            new RandomRuns(seed, 1).fullRacks();
        }
        Due.end();
    }

    private int from(int least, int most) {
        return least + random.nextInt(Math.max(1, most - least + 1));
    }

    /** Mostly within the bounds, at times just beside them, seldom far off. */
    private int near(int least, int most) {
        int dice = random.nextInt(60);
        return dice == 0 ? FAR[random.nextInt(FAR.length)] : dice == 1 ? least - 1 : dice == 2 ? most + 1 : from(least, most);
    }

    private void calls() {
        while (made <= MOST_CALLS) {
            int dice = random.nextInt(100);
            if (dice < 40) {
                changePlate();
            } else if (dice < 60) {
                changeBars();
            } else if (dice < 80) {
                askPlate();
            } else if (dice < 97) {
                askBars();
            } else {
                told();
            }
        }
    }

    /** All stocks and orders there may be, with demands up to the most. */
    private void fullRacks() {
        int longest = from(10, 99);
        for (int i = 0; i < 3; i++) {
            int length = i == 0 ? longest : from(1, longest);
            int price = manyTies ? 1 + length / 8 : from(1, 100);
            same("stock(" + length + ", " + price + ")", x.stock(length, price), m.stock(length, price));
        }
        for (int i = 0; i < 4; i++) {
            int length = from(1, random.nextBoolean() ? longest : 1 + longest / 3), demand = from(0, 5);
            same("order(" + length + ", " + demand + ")", x.order(length, demand), m.order(length, demand));
        }
        while (made <= MOST_CALLS) {
            wholeList();
            int k = from(0, 3), n = from(0, 5), blade = from(0, 3);
            if (random.nextBoolean()) {
                same("demand(" + k + ", " + n + ")", x.demand(k, n), m.demand(k, n));
            } else {
                same("blade(" + blade + ")", x.blade(blade), m.blade(blade));
            }
        }
    }

    private void same(String call, int got, int due) {
        made++;
        Due.is(run + ", call " + made + ": " + call, got, due);
    }

    private void told() {
        int what = near(0, 9);
        same("told(" + what + ")", x.told(what), m.told(what));
    }

    private void changePlate() {
        int dice = random.nextInt(39);
        if (dice < 8) {
            int w = near(1, mostSide), h = near(1, mostSide), kerf = near(0, 2), stages = near(1, 4), first = near(0, 1);
            same("plate(" + w + ", " + h + ", " + kerf + ", " + stages + ", " + first + ")",
                    x.plate(w, h, kerf, stages, first), m.plate(w, h, kerf, stages, first));
        } else if (dice < 18) {
            int dx = near(0, m.told(0) - 1), dy = near(0, m.told(1) - 1), w = near(1, 2), h = near(1, 2);
            same("defect(" + dx + ", " + dy + ", " + w + ", " + h + ")", x.defect(dx, dy, w, h), m.defect(dx, dy, w, h));
        } else if (dice < 33) {
            int w = near(1, Math.min(16, mostSide)), h = near(1, Math.min(16, mostSide));
            int value = random.nextInt(4) == 0 ? near(1, 1000) : from(1, 4) * w * h;
            boolean turns = random.nextBoolean();
            same("kind(" + w + ", " + h + ", " + value + ", " + turns + ")",
                    x.kind(w, h, value, turns), m.kind(w, h, value, turns));
        } else if (dice < 38) {
            int k = near(0, m.told(6) - 1), v = random.nextInt(3) == 0 ? near(1, 1000) : from(1, 20);
            same("value(" + k + ", " + v + ")", x.value(k, v), m.value(k, v));
        } else {
            same("noKinds()", x.noKinds(), m.noKinds());
        }
    }

    private void changeBars() {
        int dice = random.nextInt(30);
        if (dice < 8) {
            int length = random.nextBoolean() ? near(1, 99) : from(5, 30);
            int price = random.nextBoolean() ? near(1, 100) : from(1, 12);
            // Prices that go with the lengths make ties, which the number of bars has to break.
            if (manyTies) {
                length = 3 * from(1, 4);
                price = length / 3;
            }
            same("stock(" + length + ", " + price + ")", x.stock(length, price), m.stock(length, price));
        } else if (dice < 16) {
            int length = random.nextInt(4) == 0 ? near(1, 99) : from(1, manyTies ? 7 : 12);
            int demand = room() < 5 ? from(0, room()) : near(0, 5);
            same("order(" + length + ", " + demand + ")", x.order(length, demand), m.order(length, demand));
        } else if (dice < 25) {
            int k = near(0, m.told(8) - 1);
            int n = room() < 5 ? from(0, room()) : near(0, 5);
            same("demand(" + k + ", " + n + ")", x.demand(k, n), m.demand(k, n));
        } else if (dice < 29) {
            int n = near(0, 3);
            same("blade(" + n + ")", x.blade(n), m.blade(n));
        } else {
            same("noBars()", x.noBars(), m.noBars());
        }
    }

    /** How many pieces more the model can look through all lists of soon. */
    private int room() {
        return Math.max(0, 8 - m.wanted());
    }

    private void askPlate() {
        int dice = random.nextInt(6);
        if (dice == 0) {
            wholePlan();
        } else if (dice < 4) {
            int px = near(0, m.told(0) - 1), py = near(0, m.told(1) - 1);
            int w = near(1, m.told(0) - Math.max(0, Math.min(px, 15))), h = near(1, m.told(1) - Math.max(0, Math.min(py, 15)));
            int stage = near(1, m.told(3));
            same("worth(" + px + ", " + py + ", " + w + ", " + h + ", " + stage + ")",
                    x.worth(px, py, w, h, stage), m.worth(px, py, w, h, stage));
        } else {
            samePiece(near(0, m.pieces() - 1), near(0, 5));
            sameCut(near(0, m.cuts() - 1), near(0, 6));
        }
    }

    private void samePiece(int i, int what) {
        same("piece(" + i + ", " + what + ")", x.piece(i, what), m.piece(i, what));
    }

    private void sameCut(int i, int what) {
        same("cut(" + i + ", " + what + ")", x.cut(i, what), m.cut(i, what));
    }

    private void sameBar(int i, int what) {
        same("bar(" + i + ", " + what + ")", x.bar(i, what), m.bar(i, what));
    }

    /** The first rows of a plan tell the order of its cuts, any other row where they lead to. */
    private void wholePlan() {
        same("waste()", x.waste(), m.waste());
        same("pieces()", x.pieces(), m.pieces());
        same("cuts()", x.cuts(), m.cuts());
        for (int row = 0; row < 8; row++) {
            for (int what = 0; what < 6; what++) {
                samePiece(row < 4 ? row : from(0, m.pieces()), what);
            }
            for (int what = 0; what < 7; what++) {
                sameCut(row < 4 ? row : from(0, m.cuts()), what);
            }
        }
    }

    private void askBars() {
        if (random.nextInt(4) == 0) {
            sameBar(near(0, Math.max(0, m.bars() - 1)), near(0, 5));
        } else {
            wholeList();
        }
    }

    private void wholeList() {
        same("price()", x.price(), m.price());
        same("bars()", x.bars(), m.bars());
        for (int i = 0; i <= m.bars(); i++) {
            for (int what = 0; what < 6; what++) {
                sameBar(i, what);
            }
        }
    }
}
