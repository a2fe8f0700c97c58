import java.util.Random;

/** Runs of 512 calls, right and wrong ones, on the program and on the model: the answers are the same. */
public final class RandomRuns {
    private static final int[] FAR = {Integer.MIN_VALUE, Integer.MAX_VALUE, -1000, 100000, -2, 17, 1 << 30};

    private final Random random;
    private final CuttingRules x = new CuttingRules();
    private final Model m = new Model();
    private final String run;
    private final int mostSide;
    private final boolean manyTies;

    private RandomRuns(long seed, int mostSide) {
        this.random = new Random(seed);
        this.run = "run " + seed;
        this.mostSide = mostSide;
        this.manyTies = seed % 2 == 0;
    }

    public static void main(String[] args) {
        for (int seed = 1; seed <= 300; seed++) {
            new RandomRuns(seed, 1 + seed % 9).calls(512);
        }
        for (int seed = 1001; seed <= 1006; seed++) {
            new RandomRuns(seed, 16).calls(160);
        }
        Due.end();
    }

    private int from(int least, int most) {
        return least + random.nextInt(Math.max(1, most - least + 1));
    }

    /** Mostly within the bounds, at times just beside them, seldom far off. */
    private int near(int least, int most) {
        int dice = random.nextInt(60);
        return dice == 0 ? FAR[random.nextInt(FAR.length)] : dice == 1 ? least - 1 : dice == 2 ? most + 1 : from(least, most);
    }

    private void calls(int count) {
        int made = 0;
        while (made < count) {
            int dice = random.nextInt(100);
            made += dice < 30 ? changePlate() : dice < 42 ? changeBars() : dice < 70 ? askPlate() : dice < 97 ? askBars() : told();
        }
    }

    private int told() {
        int what = near(0, 9);
        Due.is(run + ": told(" + what + ")", x.told(what), m.told(what));
        return 1;
    }

    private int changePlate() {
        int dice = random.nextInt(40);
        if (dice < 8) {
            int w = near(1, mostSide), h = near(1, mostSide), kerf = near(0, 2), stages = near(1, 4), first = near(0, 1);
            Due.is(run + ": plate(" + w + ", " + h + ", " + kerf + ", " + stages + ", " + first + ")",
                    x.plate(w, h, kerf, stages, first), m.plate(w, h, kerf, stages, first));
        } else if (dice < 18) {
            int dx = near(0, m.told(0) - 1), dy = near(0, m.told(1) - 1), w = near(1, 2), h = near(1, 2);
            Due.is(run + ": defect(" + dx + ", " + dy + ", " + w + ", " + h + ")", x.defect(dx, dy, w, h), m.defect(dx, dy, w, h));
        } else if (dice < 33) {
            int w = near(1, Math.min(16, mostSide)), h = near(1, Math.min(16, mostSide));
            int value = random.nextInt(4) == 0 ? near(1, 1000) : from(1, 4) * w * h;
            boolean turns = random.nextBoolean();
            Due.is(run + ": kind(" + w + ", " + h + ", " + value + ", " + turns + ")",
                    x.kind(w, h, value, turns), m.kind(w, h, value, turns));
        } else if (dice < 38) {
            int k = near(0, m.told(6) - 1), v = random.nextInt(3) == 0 ? near(1, 1000) : from(1, 20);
            Due.is(run + ": value(" + k + ", " + v + ")", x.value(k, v), m.value(k, v));
        } else if (dice == 38) {
            Due.is(run + ": noKinds()", x.noKinds(), m.noKinds());
        } else {
            return 0;
        }
        return 1;
    }

    private int changeBars() {
        int dice = random.nextInt(30);
        if (dice < 8) {
            int length = random.nextBoolean() ? near(1, 99) : from(5, 30);
            int price = random.nextBoolean() ? near(1, 100) : from(1, 12);
            // Prices that go with the lengths make ties, which the number of bars has to break.
            if (manyTies) {
                length = 3 * from(1, 4);
                price = length / 3;
            }
            Due.is(run + ": stock(" + length + ", " + price + ")", x.stock(length, price), m.stock(length, price));
        } else if (dice < 16) {
            int length = random.nextInt(4) == 0 ? near(1, 99) : from(1, manyTies ? 7 : 12);
            int demand = room(0) < 5 ? from(0, room(0)) : near(0, 5);
            Due.is(run + ": order(" + length + ", " + demand + ")", x.order(length, demand), m.order(length, demand));
        } else if (dice < 25) {
            int k = near(0, m.told(8) - 1);
            int n = room(0) < 5 ? from(0, Math.max(0, room(0))) : near(0, 5);
            Due.is(run + ": demand(" + k + ", " + n + ")", x.demand(k, n), m.demand(k, n));
        } else if (dice < 29) {
            int n = near(0, 3);
            Due.is(run + ": blade(" + n + ")", x.blade(n), m.blade(n));
        } else {
            Due.is(run + ": noBars()", x.noBars(), m.noBars());
        }
        return 1;
    }

    /** How many pieces more the model can look through soon. */
    private int room(int used) {
        return Math.max(0, 8 - m.wanted() - used);
    }

    private int askPlate() {
        int dice = random.nextInt(6);
        if (dice == 0) {
            return wholePlan();
        }
        if (dice < 4) {
            int px = near(0, m.told(0) - 1), py = near(0, m.told(1) - 1);
            int w = near(1, m.told(0) - Math.max(0, Math.min(px, 15))), h = near(1, m.told(1) - Math.max(0, Math.min(py, 15)));
            int stage = near(1, m.told(3));
            Due.is(run + ": worth(" + px + ", " + py + ", " + w + ", " + h + ", " + stage + ")",
                    x.worth(px, py, w, h, stage), m.worth(px, py, w, h, stage));
            return 1;
        }
        int i = near(0, m.pieces() - 1), what = near(0, 5);
        Due.is(run + ": piece(" + i + ", " + what + ")", x.piece(i, what), m.piece(i, what));
        int j = near(0, m.cuts() - 1), which = near(0, 6);
        Due.is(run + ": cut(" + j + ", " + which + ")", x.cut(j, which), m.cut(j, which));
        return 2;
    }

    private int wholePlan() {
        int made = 3;
        Due.is(run + ": waste()", x.waste(), m.waste());
        Due.is(run + ": pieces()", x.pieces(), m.pieces());
        Due.is(run + ": cuts()", x.cuts(), m.cuts());
        for (int i = 0; i < Math.min(m.pieces(), 12); i++) {
            for (int what = 0; what < 6; what++, made++) {
                Due.is(run + ": piece(" + i + ", " + what + ")", x.piece(i, what), m.piece(i, what));
            }
        }
        for (int i = 0; i < Math.min(m.cuts(), 12); i++) {
            for (int what = 0; what < 7; what++, made++) {
                Due.is(run + ": cut(" + i + ", " + what + ")", x.cut(i, what), m.cut(i, what));
            }
        }
        return made / 8 + 1;
    }

    private int askBars() {
        int made = 2;
        Due.is(run + ": price()", x.price(), m.price());
        Due.is(run + ": bars()", x.bars(), m.bars());
        if (random.nextInt(4) == 0) {
            int i = near(0, Math.max(0, m.bars() - 1)), what = near(0, 5);
            Due.is(run + ": bar(" + i + ", " + what + ")", x.bar(i, what), m.bar(i, what));
            return made + 1;
        }
        for (int i = 0; i <= m.bars(); i++) {
            for (int what = 0; what < 6; what++) {
                Due.is(run + ": bar(" + i + ", " + what + ")", x.bar(i, what), m.bar(i, what));
            }
        }
        return made;
    }
}
