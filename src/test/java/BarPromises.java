/** Promises 12 to 19 and 21: stocks, orders and the list of bars. */
public final class BarPromises {
    private static final int MIN = Integer.MIN_VALUE, MAX = Integer.MAX_VALUE;

    public static void main(String[] args) {
        stocks();
        orders();
        demands();
        blades();
        shortLists();
        whichStock();
        pricesAheadOfBars();
        greatestPatternFirst();
        mostBars();
        facts();
        noBars();
        Due.end();
    }

    private static void listIs(CuttingRules x, String when, int price, int[][] bars) {
        Due.is(when + ": price()", x.price(), price);
        Due.is(when + ": bars()", x.bars(), bars.length);
        for (int i = 0; i < bars.length; i++) {
            for (int what = 0; what < 6; what++) {
                int due = what < bars[i].length ? bars[i][what] : 0;
                Due.is(when + ": bar(" + i + ", " + what + ")", x.bar(i, what), due);
            }
        }
        Due.is(when + ": no bar more", x.bar(bars.length, 0), CuttingRules.NONE);
    }

    private static void listIsShort(CuttingRules x, String when) {
        Due.is(when + ": price()", x.price(), CuttingRules.NONE);
        Due.is(when + ": bars()", x.bars(), CuttingRules.NONE);
        Due.is(when + ": bar(0, 0)", x.bar(0, 0), CuttingRules.NONE);
        Due.is(when + ": bar(0, 6)", x.bar(0, 6), CuttingRules.OUTSIDE);
    }

    private static void stocks() {
        CuttingRules x = new CuttingRules();
        Due.is("length 0", x.stock(0, 5), CuttingRules.OUTSIDE);
        Due.is("length 100", x.stock(100, 5), CuttingRules.OUTSIDE);
        Due.is("price 0", x.stock(5, 0), CuttingRules.OUTSIDE);
        Due.is("price 101", x.stock(5, 101), CuttingRules.OUTSIDE);
        Due.is("MIN, MAX", x.stock(MIN, MAX), CuttingRules.OUTSIDE);
        Due.is("none yet", x.told(7), 0);
        Due.is("least", x.stock(1, 1), 0);
        Due.is("most", x.stock(99, 100), 1);
        Due.is("the same again", x.stock(99, 100), 2);
        Due.is("fourth", x.stock(1, 1), CuttingRules.ROOM);
        Due.is("OUTSIDE ahead of ROOM", x.stock(1, 0), CuttingRules.OUTSIDE);
        Due.is("three", x.told(7), 3);
    }

    private static void orders() {
        CuttingRules x = new CuttingRules();
        Due.is("length 0", x.order(0, 1), CuttingRules.OUTSIDE);
        Due.is("length 100", x.order(100, 1), CuttingRules.OUTSIDE);
        Due.is("demand -1", x.order(1, -1), CuttingRules.OUTSIDE);
        Due.is("demand 6", x.order(1, 6), CuttingRules.OUTSIDE);
        Due.is("MAX, MIN", x.order(MAX, MIN), CuttingRules.OUTSIDE);
        Due.is("none yet", x.told(8), 0);
        Due.is("least", x.order(1, 0), 0);
        Due.is("most", x.order(99, 5), 1);
        Due.is("third", x.order(7, 2), 2);
        Due.is("fourth", x.order(7, 2), 3);
        Due.is("fifth", x.order(7, 2), CuttingRules.ROOM);
        Due.is("OUTSIDE ahead of ROOM", x.order(7, 6), CuttingRules.OUTSIDE);
        Due.is("four", x.told(8), 4);
    }

    private static void demands() {
        CuttingRules x = new CuttingRules();
        Due.is("no order", x.demand(0, 1), CuttingRules.UNKNOWN);
        x.stock(10, 3);
        x.order(10, 2);
        Due.is("two bars", x.price(), 6);
        Due.is("demand 5", x.demand(0, 5), 2);
        Due.is("five bars", x.price(), 15);
        Due.is("demand 6", x.demand(0, 6), CuttingRules.OUTSIDE);
        Due.is("demand -1", x.demand(0, -1), CuttingRules.OUTSIDE);
        Due.is("k 1", x.demand(1, 1), CuttingRules.UNKNOWN);
        Due.is("k -1", x.demand(-1, 1), CuttingRules.UNKNOWN);
        Due.is("UNKNOWN ahead of OUTSIDE", x.demand(MAX, 6), CuttingRules.UNKNOWN);
        Due.is("five bars still", x.bars(), 5);
        Due.is("demand 0", x.demand(0, 0), 5);
        listIs(x, "without demands", 0, new int[0][]);
        Due.is("demand 1", x.demand(0, 1), 0);
        listIs(x, "one", 3, new int[][] {{0, 0, 1}});
    }

    private static void blades() {
        CuttingRules x = new CuttingRules();
        Due.is("blade 3", x.blade(3), 0);
        Due.is("blade 4", x.blade(4), CuttingRules.OUTSIDE);
        Due.is("blade -1", x.blade(-1), CuttingRules.OUTSIDE);
        Due.is("blade MIN", x.blade(MIN), CuttingRules.OUTSIDE);
        Due.is("told", x.told(9), 3);
        x.stock(11, 1);
        x.order(5, 2);
        listIs(x, "blade 3", 2, new int[][] {{0, 6, 1}, {0, 6, 1}});
        Due.is("blade 1", x.blade(1), 3);
        listIs(x, "a blade for each piece but one", 1, new int[][] {{0, 0, 2}});
        Due.is("blade 2", x.blade(2), 1);
        Due.is("too long by one", x.bars(), 2);
        Due.is("blade 0", x.blade(0), 2);
        listIs(x, "blade 0", 1, new int[][] {{0, 1, 2}});
        Due.is("blade stays when bars go", x.blade(3) + x.noBars() + x.told(9), 0 + 2 + 3);
    }

    private static void shortLists() {
        CuttingRules x = new CuttingRules();
        x.order(5, 0);
        listIs(x, "no stock, no demand", 0, new int[0][]);
        x.demand(0, 1);
        listIsShort(x, "no stock");
        x.stock(4, 1);
        listIsShort(x, "stock too short");
        x.order(4, 1);
        listIsShort(x, "one of two is too long");
        x.demand(0, 0);
        listIs(x, "too long, but not wanted", 1, new int[][] {{0, 0, 0, 1}});
        x.demand(0, 1);
        x.stock(5, 100);
        listIs(x, "long enough", 101, new int[][] {{1, 0, 1, 0}, {0, 0, 0, 1}});
    }

    private static void whichStock() {
        CuttingRules x = new CuttingRules();
        x.stock(9, 7);
        x.order(5, 1);
        Due.is("one stock", x.bar(0, 0), 0);
        x.stock(20, 7);
        listIs(x, "of equal prices the least number", 7, new int[][] {{0, 4, 1}});
        x.stock(99, 6);
        listIs(x, "the least price, though it is longer", 6, new int[][] {{2, 94, 1}});
        x.noBars();
        x.stock(4, 1);
        x.stock(6, 3);
        x.stock(5, 3);
        x.order(5, 1);
        listIs(x, "only what is long enough", 3, new int[][] {{1, 1, 1}});
    }

    private static void pricesAheadOfBars() {
        CuttingRules x = new CuttingRules();
        x.stock(10, 9);
        x.stock(5, 4);
        x.order(5, 2);
        listIs(x, "two bars are cheaper", 8, new int[][] {{1, 0, 1}, {1, 0, 1}});
        x.noBars();
        x.stock(10, 8);
        x.stock(5, 4);
        x.order(5, 2);
        listIs(x, "of equal prices the fewest bars", 8, new int[][] {{0, 0, 2}});
        x.noBars();
        x.stock(10, 8);
        x.stock(6, 4);
        x.order(4, 2);
        x.order(6, 2);
        listIs(x, "fewest bars ahead of the greatest pattern", 16, new int[][] {{0, 0, 1, 1}, {0, 0, 1, 1}});
    }

    private static void greatestPatternFirst() {
        CuttingRules x = new CuttingRules();
        x.stock(6, 1);
        x.order(2, 2);
        x.order(3, 2);
        listIs(x, "2+2, 3+3 ahead of 2+3, 2+3", 2, new int[][] {{0, 2, 2, 0}, {0, 0, 0, 2}});
        x.noBars();
        x.stock(6, 1);
        x.order(3, 2);
        x.order(2, 1);
        x.order(1, 2);
        listIs(x, "what is left has to go on as few bars", 2, new int[][] {{0, 0, 2, 0, 0}, {0, 2, 0, 1, 2}});
        x.noBars();
        x.stock(6, 1);
        x.order(1, 2);
        x.order(4, 1);
        x.order(2, 2);
        listIs(x, "the most of order 0, then of 1", 2, new int[][] {{0, 0, 2, 1, 0}, {0, 2, 0, 0, 2}});
    }

    private static void mostBars() {
        CuttingRules x = new CuttingRules();
        x.stock(99, 100);
        for (int k = 0; k < 4; k++) {
            x.order(99, 5);
        }
        Due.is("twenty bars", x.bars(), 20);
        Due.is("their price", x.price(), 2000);
        Due.is("first", x.bar(0, 2), 1);
        Due.is("last", x.bar(19, 5), 1);
        Due.is("behind the last", x.bar(20, 0), CuttingRules.NONE);
        x.noBars();
        x.stock(99, 1);
        for (int k = 0; k < 4; k++) {
            x.order(1, 5);
        }
        x.blade(3);
        listIs(x, "all on one bar", 1, new int[][] {{0, 22, 5, 5, 5, 5}});
    }

    private static void facts() {
        CuttingRules x = new CuttingRules();
        Due.is("no bars", x.bar(0, 5), CuttingRules.NONE);
        x.stock(9, 2);
        x.order(4, 1);
        listIs(x, "one order", 2, new int[][] {{0, 5, 1}});
        Due.is("i -1", x.bar(-1, 0), CuttingRules.NONE);
        Due.is("i MAX", x.bar(MAX, 0), CuttingRules.NONE);
        Due.is("i MIN", x.bar(MIN, 5), CuttingRules.NONE);
        Due.is("what -1", x.bar(0, -1), CuttingRules.OUTSIDE);
        Due.is("what 6", x.bar(0, 6), CuttingRules.OUTSIDE);
        Due.is("what MAX", x.bar(0, MAX), CuttingRules.OUTSIDE);
        Due.is("what MIN", x.bar(0, MIN), CuttingRules.OUTSIDE);
        Due.is("what 6 of no bar", x.bar(7, 6), CuttingRules.OUTSIDE);
    }

    private static void noBars() {
        CuttingRules x = new CuttingRules();
        Due.is("none", x.noBars(), 0);
        x.kind(1, 1, 1, false);
        x.stock(5, 1);
        x.order(5, 4);
        x.order(3, 4);
        Due.is("price", x.price(), 8);
        Due.is("three", x.noBars(), 3);
        Due.is("stocks", x.told(7), 0);
        Due.is("orders", x.told(8), 0);
        Due.is("kinds stay", x.told(6), 1);
        listIs(x, "nothing left", 0, new int[0][]);
        Due.is("no demand", x.demand(0, 1), CuttingRules.UNKNOWN);
        Due.is("stocks begin anew", x.stock(3, 2), 0);
        Due.is("orders begin anew", x.order(3, 1), 0);
        listIs(x, "anew", 2, new int[][] {{0, 0, 1}});
    }
}
