/** Promises 1 to 11, 19 and 20: the plate, its worth and its plan. */
public final class PlatePromises {
    private static final int MIN = Integer.MIN_VALUE, MAX = Integer.MAX_VALUE;

    public static void main(String[] args) {
        newObject();
        plates();
        defects();
        kinds();
        values();
        worths();
        stagesAndDirections();
        kerfs();
        planOrder();
        turnedPieces();
        numbersWithKerf();
        factsOutside();
        noKinds();
        Due.end();
    }

    private static void newObject() {
        CuttingRules x = new CuttingRules();
        int[] told = {1, 1, 0, 1, 0, 0, 0, 0, 0, 0};
        for (int what = 0; what < told.length; what++) {
            Due.is("new: told(" + what + ")", x.told(what), told[what]);
        }
        Due.is("told(-1)", x.told(-1), CuttingRules.OUTSIDE);
        Due.is("told(10)", x.told(10), CuttingRules.OUTSIDE);
        Due.is("told(MIN)", x.told(MIN), CuttingRules.OUTSIDE);
        Due.is("told(MAX)", x.told(MAX), CuttingRules.OUTSIDE);
        Due.is("new: pieces()", x.pieces(), 0);
        Due.is("new: cuts()", x.cuts(), 0);
        Due.is("new: waste()", x.waste(), 1);
        Due.is("new: price()", x.price(), 0);
        Due.is("new: bars()", x.bars(), 0);
        Due.is("new: worth", x.worth(0, 0, 1, 1, 1), 0);
    }

    private static void plateIs(CuttingRules x, String when, int... due) {
        for (int what = 0; what < due.length; what++) {
            Due.is(when + ": told(" + what + ")", x.told(what), due[what]);
        }
    }

    private static void plates() {
        CuttingRules x = new CuttingRules();
        Due.is("plate least", x.plate(1, 1, 0, 1, 0), 1);
        Due.is("plate most", x.plate(16, 16, 2, 4, 1), 1);
        plateIs(x, "most", 16, 16, 2, 4, 1, 0);
        Due.is("kind", x.kind(3, 2, 7, true), 0);
        Due.is("defect", x.defect(1, 2, 3, 4), 1);
        Due.is("w 0", x.plate(0, 5, 1, 2, 0), CuttingRules.OUTSIDE);
        Due.is("w 17", x.plate(17, 5, 1, 2, 0), CuttingRules.OUTSIDE);
        Due.is("h 0", x.plate(5, 0, 1, 2, 0), CuttingRules.OUTSIDE);
        Due.is("h 17", x.plate(5, 17, 1, 2, 0), CuttingRules.OUTSIDE);
        Due.is("kerf -1", x.plate(5, 5, -1, 2, 0), CuttingRules.OUTSIDE);
        Due.is("kerf 3", x.plate(5, 5, 3, 2, 0), CuttingRules.OUTSIDE);
        Due.is("stages 0", x.plate(5, 5, 1, 0, 0), CuttingRules.OUTSIDE);
        Due.is("stages 5", x.plate(5, 5, 1, 5, 0), CuttingRules.OUTSIDE);
        Due.is("first -1", x.plate(5, 5, 1, 2, -1), CuttingRules.OUTSIDE);
        Due.is("first 2", x.plate(5, 5, 1, 2, 2), CuttingRules.OUTSIDE);
        Due.is("MAX", x.plate(MAX, MAX, MAX, MAX, MAX), CuttingRules.OUTSIDE);
        plateIs(x, "after refusals", 16, 16, 2, 4, 1, 1, 1);
        Due.is("plate", x.plate(6, 4, 0, 1, 0), 1);
        plateIs(x, "kinds stay, defects go", 6, 4, 0, 1, 0, 0, 1);
        Due.is("kind of before is worth", x.worth(1, 1, 3, 2, 1), 7);
    }

    private static void defects() {
        CuttingRules x = new CuttingRules();
        x.plate(6, 4, 0, 2, 0);
        x.kind(2, 2, 9, false);
        Due.is("worth clean", x.worth(1, 1, 2, 2, 1), 9);
        Due.is("w 0", x.defect(0, 0, 0, 1), CuttingRules.OUTSIDE);
        Due.is("h 0", x.defect(0, 0, 1, 0), CuttingRules.OUTSIDE);
        Due.is("x -1", x.defect(-1, 0, 1, 1), CuttingRules.OUTSIDE);
        Due.is("y -1", x.defect(0, -1, 1, 1), CuttingRules.OUTSIDE);
        Due.is("x 6", x.defect(6, 0, 1, 1), CuttingRules.OUTSIDE);
        Due.is("y 4", x.defect(0, 4, 1, 1), CuttingRules.OUTSIDE);
        Due.is("too wide", x.defect(4, 0, 3, 1), CuttingRules.OUTSIDE);
        Due.is("too high", x.defect(0, 3, 1, 2), CuttingRules.OUTSIDE);
        Due.is("sum overflows", x.defect(1, 1, MAX, 1), CuttingRules.OUTSIDE);
        Due.is("sums overflow", x.defect(MAX, MAX, MAX, MAX), CuttingRules.OUTSIDE);
        Due.is("MIN", x.defect(MIN, MIN, MIN, MIN), CuttingRules.OUTSIDE);
        Due.is("none yet", x.told(5), 0);
        Due.is("one", x.defect(1, 1, 1, 1), 1);
        Due.is("cell spoiled", x.worth(1, 1, 2, 2, 1), 0);
        Due.is("beside it", x.worth(2, 1, 2, 2, 1), 9);
        Due.is("left of it", x.worth(0, 2, 2, 2, 1), 9);
        Due.is("the same again", x.defect(1, 1, 1, 1), 2);
        Due.is("over it", x.defect(0, 0, 6, 4), 3);
        Due.is("all spoiled", x.worth(0, 0, 6, 4, 1), 0);
        Due.is("waste of all", x.waste(), 24);
        Due.is("corner", x.defect(5, 3, 1, 1), 4);
        Due.is("edge", x.defect(0, 3, 6, 1), 5);
        Due.is("sixth", x.defect(2, 0, 1, 4), 6);
        Due.is("seventh", x.defect(2, 0, 1, 4), CuttingRules.ROOM);
        Due.is("OUTSIDE ahead of ROOM", x.defect(2, 0, 1, 5), CuttingRules.OUTSIDE);
        Due.is("six", x.told(5), 6);
    }

    private static void kinds() {
        CuttingRules x = new CuttingRules();
        Due.is("w 0", x.kind(0, 1, 1, true), CuttingRules.OUTSIDE);
        Due.is("w 17", x.kind(17, 1, 1, true), CuttingRules.OUTSIDE);
        Due.is("h 0", x.kind(1, 0, 1, true), CuttingRules.OUTSIDE);
        Due.is("h 17", x.kind(1, 17, 1, true), CuttingRules.OUTSIDE);
        Due.is("value 0", x.kind(1, 1, 0, true), CuttingRules.OUTSIDE);
        Due.is("value 1001", x.kind(1, 1, 1001, true), CuttingRules.OUTSIDE);
        Due.is("value MIN", x.kind(1, 1, MIN, true), CuttingRules.OUTSIDE);
        Due.is("none yet", x.told(6), 0);
        Due.is("no piece yet", x.pieces(), 0);
        Due.is("least", x.kind(1, 1, 1, false), 0);
        Due.is("a piece", x.pieces(), 1);
        Due.is("most", x.kind(16, 16, 1000, true), 1);
        for (int k = 2; k < 8; k++) {
            Due.is("kind " + k, x.kind(k, 1, k, false), k);
        }
        Due.is("ninth", x.kind(1, 1, 500, true), CuttingRules.ROOM);
        Due.is("OUTSIDE ahead of ROOM", x.kind(1, 1, 1001, true), CuttingRules.OUTSIDE);
        Due.is("eight", x.told(6), 8);
        Due.is("refused kinds are worth nothing", x.worth(0, 0, 1, 1, 1), 1);
    }

    private static void values() {
        CuttingRules x = new CuttingRules();
        Due.is("no kind", x.value(0, 5), CuttingRules.UNKNOWN);
        x.kind(1, 1, 5, false);
        Due.is("worth 5", x.worth(0, 0, 1, 1, 1), 5);
        Due.is("value", x.value(0, 1000), 5);
        Due.is("worth 1000", x.worth(0, 0, 1, 1, 1), 1000);
        Due.is("the same value", x.value(0, 1000), 1000);
        Due.is("0", x.value(0, 0), CuttingRules.OUTSIDE);
        Due.is("1001", x.value(0, 1001), CuttingRules.OUTSIDE);
        Due.is("k 1", x.value(1, 5), CuttingRules.UNKNOWN);
        Due.is("k -1", x.value(-1, 5), CuttingRules.UNKNOWN);
        Due.is("UNKNOWN ahead of OUTSIDE", x.value(1, 0), CuttingRules.UNKNOWN);
        Due.is("k MAX", x.value(MAX, 5), CuttingRules.UNKNOWN);
        Due.is("unchanged", x.value(0, 1), 1000);
        Due.is("worth 1", x.worth(0, 0, 1, 1, 1), 1);
    }

    private static void worths() {
        CuttingRules x = new CuttingRules();
        x.plate(6, 4, 0, 3, 1);
        x.kind(1, 1, 1, false);
        Due.is("all", x.worth(0, 0, 6, 4, 1), 24);
        Due.is("part", x.worth(2, 1, 3, 2, 2), 6);
        Due.is("stage 3 parts a height alone", x.worth(0, 0, 1, 4, 3), 4);
        Due.is("stage 3 does not part a width", x.worth(0, 0, 2, 1, 3), 0);
        Due.is("stage 0", x.worth(0, 0, 1, 1, 0), CuttingRules.OUTSIDE);
        Due.is("stage 4 of 3", x.worth(0, 0, 1, 1, 4), CuttingRules.OUTSIDE);
        Due.is("stage MAX", x.worth(0, 0, 1, 1, MAX), CuttingRules.OUTSIDE);
        Due.is("w 0", x.worth(0, 0, 0, 1, 1), CuttingRules.OUTSIDE);
        Due.is("h 0", x.worth(0, 0, 1, 0, 1), CuttingRules.OUTSIDE);
        Due.is("x -1", x.worth(-1, 0, 1, 1, 1), CuttingRules.OUTSIDE);
        Due.is("y -1", x.worth(0, -1, 1, 1, 1), CuttingRules.OUTSIDE);
        Due.is("too wide", x.worth(5, 0, 2, 1, 1), CuttingRules.OUTSIDE);
        Due.is("too high", x.worth(0, 3, 1, 2, 1), CuttingRules.OUTSIDE);
        Due.is("overflow", x.worth(1, 1, MAX, MAX, 1), CuttingRules.OUTSIDE);
        Due.is("MIN", x.worth(MIN, MIN, MIN, MIN, MIN), CuttingRules.OUTSIDE);
        x.value(0, 1000);
        x.plate(16, 16, 0, 2, 0);
        Due.is("the greatest worth there is", x.worth(0, 0, 16, 16, 1), 256000);
        Due.is("and again", x.worth(0, 0, 16, 16, 1), 256000);
        Due.is("the most pieces", x.pieces(), 256);
        Due.is("the most cuts", x.cuts(), 255);
        Due.is("row of the last cut", x.cut(254, 2), 15);
        Due.is("no cut more", x.cut(255, 0), CuttingRules.NONE);
        Due.is("no piece more", x.piece(256, 0), CuttingRules.NONE);
        Due.is("last piece", x.piece(255, 1) * 16 + x.piece(255, 2), 255);
    }

    private static void stagesAndDirections() {
        CuttingRules x = new CuttingRules();
        x.kind(1, 1, 1, false);
        x.plate(3, 1, 0, 1, 0);
        Due.is("first 0 parts a width", x.worth(0, 0, 3, 1, 1), 3);
        x.plate(3, 1, 0, 1, 1);
        Due.is("first 1 does not", x.worth(0, 0, 3, 1, 1), 0);
        Due.is("no plan", x.pieces(), 0);
        x.plate(3, 1, 0, 2, 1);
        Due.is("its second stage does", x.worth(0, 0, 3, 1, 1), 3);
        Due.is("stage of the cut", x.cut(0, 0), 2);
        Due.is("direction of the cut", x.cut(0, 1), 0);
        x.plate(1, 3, 0, 1, 1);
        Due.is("first 1 parts a height", x.worth(0, 0, 1, 3, 1), 3);
        Due.is("its stage", x.cut(0, 0), 1);
        Due.is("its direction", x.cut(0, 1), 1);
        Due.is("its row", x.cut(0, 2), 1);
        x.plate(1, 2, 0, 4, 0);
        Due.is("stage 4 has the direction of 2", x.worth(0, 0, 1, 2, 4), 2);
        x.plate(2, 1, 0, 4, 0);
        Due.is("and not that of 1", x.worth(0, 0, 2, 1, 4), 0);
        Due.is("but stage 3 has", x.worth(0, 0, 2, 1, 3), 2);
    }

    private static void kerfs() {
        CuttingRules x = new CuttingRules();
        x.kind(3, 1, 1, false);
        int[] least = {4, 5, 6};
        for (int kerf = 0; kerf <= 2; kerf++) {
            x.plate(3, 1, kerf, 1, 0);
            Due.is("just as wide, kerf " + kerf, x.worth(0, 0, 3, 1, 1), 1);
            x.plate(least[kerf] - 1, 1, kerf, 1, 0);
            Due.is("one is behind at least, kerf " + kerf, x.worth(0, 0, least[kerf] - 1, 1, 1), kerf == 0 ? 1 : 0);
            x.plate(least[kerf], 1, kerf, 1, 0);
            Due.is("one is behind, kerf " + kerf, x.worth(0, 0, least[kerf], 1, 1), 1);
            x.plate(6 + kerf, 1, kerf, 1, 0);
            Due.is("two, kerf " + kerf, x.worth(0, 0, 6 + kerf, 1, 1), 2);
            Due.is("second one's x, kerf " + kerf, x.piece(1, 1), 3 + kerf);
            Due.is("column of the cut, kerf " + kerf, x.cut(0, 2), 3);
            x.defect(3, 0, 1, 1);
            Due.is("the saw takes the spoiled column, kerf " + kerf, x.worth(0, 0, 6 + kerf, 1, 1), kerf == 0 ? 1 : 2);
        }
    }

    private static void planOrder() {
        CuttingRules x = new CuttingRules();
        x.plate(2, 2, 0, 2, 0);
        x.kind(1, 1, 1, false);
        x.kind(2, 2, 4, false);
        x.kind(2, 2, 4, true);
        Due.is("a piece ahead of cuts", x.cuts(), 0);
        Due.is("the first kind", x.piece(0, 0), 1);
        x.value(1, 3);
        Due.is("the kind that leads to the worth", x.piece(0, 0), 2);
        x.value(2, 3);
        Due.is("cuts now", x.cuts(), 3);
        int[][] cuts = {{1, 0, 1, 0, 0, 2, 2}, {2, 1, 1, 0, 0, 1, 2}, {2, 1, 1, 1, 0, 1, 2}};
        int[][] pieces = {{0, 0, 0, 1, 1, 0}, {0, 0, 1, 1, 1, 0}, {0, 1, 0, 1, 1, 0}, {0, 1, 1, 1, 1, 0}};
        allFacts(x, pieces, cuts);
        Due.is("no waste", x.waste(), 0);
        x.defect(0, 0, 1, 1);
        Due.is("nothing of a spoiled part", x.pieces(), 3);
        Due.is("waste", x.waste(), 1);
        x.plate(5, 1, 0, 1, 0);
        x.noKinds();
        x.kind(2, 1, 5, false);
        allFacts(x, new int[][] {{0, 1, 0, 2, 1, 0}, {0, 3, 0, 2, 1, 0}},
                new int[][] {{1, 0, 1, 0, 0, 5, 1}, {1, 0, 3, 1, 0, 4, 1}});
        Due.is("waste of the first column", x.waste(), 1);
        x.plate(3, 3, 0, 3, 0);
        x.noKinds();
        x.kind(3, 1, 2, false);
        allFacts(x, new int[][] {{0, 0, 0, 3, 1, 0}, {0, 0, 1, 3, 1, 0}, {0, 0, 2, 3, 1, 0}},
                new int[][] {{2, 1, 1, 0, 0, 3, 3}, {2, 1, 2, 0, 1, 3, 2}});
    }

    private static void allFacts(CuttingRules x, int[][] pieces, int[][] cuts) {
        Due.is("pieces()", x.pieces(), pieces.length);
        Due.is("cuts()", x.cuts(), cuts.length);
        for (int i = 0; i < pieces.length; i++) {
            for (int what = 0; what < 6; what++) {
                Due.is("piece(" + i + ", " + what + ")", x.piece(i, what), pieces[i][what]);
            }
        }
        for (int i = 0; i < cuts.length; i++) {
            for (int what = 0; what < 7; what++) {
                Due.is("cut(" + i + ", " + what + ")", x.cut(i, what), cuts[i][what]);
            }
        }
    }

    private static void turnedPieces() {
        CuttingRules x = new CuttingRules();
        x.plate(2, 3, 0, 1, 0);
        x.kind(3, 2, 5, false);
        Due.is("may not be turned", x.worth(0, 0, 2, 3, 1), 0);
        x.kind(3, 2, 5, true);
        Due.is("turned", x.worth(0, 0, 2, 3, 1), 5);
        allFacts(x, new int[][] {{1, 0, 0, 2, 3, 1}}, new int[0][]);
        x.kind(2, 3, 5, true);
        Due.is("the number comes ahead of not turned", x.piece(0, 0), 1);
        x.value(2, 6);
        allFacts(x, new int[][] {{2, 0, 0, 2, 3, 0}}, new int[0][]);
        x.plate(2, 2, 0, 1, 0);
        x.kind(2, 2, 1, true);
        allFacts(x, new int[][] {{3, 0, 0, 2, 2, 0}}, new int[0][]);
    }

    // A whole row is worth 11, three single cells of it between the kerfs 12.
    private static void numbersWithKerf() {
        CuttingRules x = new CuttingRules();
        x.plate(5, 3, 1, 2, 1);
        x.kind(5, 1, 11, false);
        x.kind(1, 1, 4, false);
        allFacts(x,
                new int[][] {{1, 0, 0, 1, 1, 0}, {1, 2, 0, 1, 1, 0}, {1, 4, 0, 1, 1, 0},
                        {1, 0, 2, 1, 1, 0}, {1, 2, 2, 1, 1, 0}, {1, 4, 2, 1, 1, 0}},
                new int[][] {{1, 1, 1, 0, 0, 5, 3}, {2, 0, 1, 0, 0, 5, 1}, {2, 0, 3, 2, 0, 3, 1},
                        {2, 0, 1, 0, 2, 5, 1}, {2, 0, 3, 2, 2, 3, 1}});
        Due.is("waste with kerf", x.waste(), 9);
    }

    private static void factsOutside() {
        CuttingRules x = new CuttingRules();
        x.plate(2, 1, 0, 1, 0);
        x.kind(1, 1, 1, false);
        int[] wrong = {-1, 2, MIN, MAX};
        for (int i : wrong) {
            Due.is("piece(" + i + ", 0)", x.piece(i, 0), CuttingRules.NONE);
        }
        Due.is("cut(-1, 0)", x.cut(-1, 0), CuttingRules.NONE);
        Due.is("cut(1, 6)", x.cut(1, 6), CuttingRules.NONE);
        Due.is("cut(MAX, 6)", x.cut(MAX, 6), CuttingRules.NONE);
        Due.is("piece(0, 6)", x.piece(0, 6), CuttingRules.OUTSIDE);
        Due.is("piece(0, -1)", x.piece(0, -1), CuttingRules.OUTSIDE);
        Due.is("piece(9, 6)", x.piece(9, 6), CuttingRules.OUTSIDE);
        Due.is("piece(0, MAX)", x.piece(0, MAX), CuttingRules.OUTSIDE);
        Due.is("cut(0, 7)", x.cut(0, 7), CuttingRules.OUTSIDE);
        Due.is("cut(0, -1)", x.cut(0, -1), CuttingRules.OUTSIDE);
        Due.is("cut(9, 7)", x.cut(9, 7), CuttingRules.OUTSIDE);
        Due.is("cut(0, MIN)", x.cut(0, MIN), CuttingRules.OUTSIDE);
        Due.is("last piece", x.piece(1, 1), 1);
        Due.is("last cut", x.cut(0, 5), 2);
    }

    private static void noKinds() {
        CuttingRules x = new CuttingRules();
        Due.is("none", x.noKinds(), 0);
        x.kind(1, 1, 3, false);
        x.kind(1, 1, 4, false);
        Due.is("worth", x.worth(0, 0, 1, 1, 1), 4);
        Due.is("two", x.noKinds(), 2);
        Due.is("told", x.told(6), 0);
        Due.is("no worth", x.worth(0, 0, 1, 1, 1), 0);
        Due.is("no pieces", x.pieces(), 0);
        Due.is("no value", x.value(0, 3), CuttingRules.UNKNOWN);
        Due.is("numbers begin anew", x.kind(1, 1, 7, false), 0);
        Due.is("its worth", x.worth(0, 0, 1, 1, 1), 7);
    }
}
