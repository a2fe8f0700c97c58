/** Promises 7 to 11 and 20: what is told of the plan, and that all kinds go. */
public final class PlanFacts {
    // Two pieces and one cut.
    private static final String TWO = "plate(2, 1, 0, 1, 0); kind(1, 1, 1, false)\n";

    public static void main(String[] args) {
        counts();
        piece();
        cut();
        waste();
        afterChanges();
        noKinds();
        Due.end();
    }

    private static void counts() {
        Script.run("pieces, cuts: a PLAN without PIECES or CUTS", "plate(9, 9, 0, 4, 0) = 1; pieces() = 0; cuts() = 0");
        Script.run("pieces, cuts: a PLAN with a PIECE, without CUTS", "kind(1, 1, 1, false) = 0; pieces() = 1; cuts() = 0");
        Script.run("pieces, cuts: a PLAN with fewer PIECES than PARTS", """
                plate(3, 1, 0, 1, 0) = 1; kind(1, 1, 1, false) = 0; defect(1, 0, 1, 1) = 1; pieces() = 2; cuts() = 2
                piece(*, 1) = 0 2; cut(*, 2) = 1 2
                """);
        Script.run("pieces, cuts: the most", """
                plate(16, 16, 0, 4, 1) = 1; kind(1, 1, 1, false) = 0; pieces() = 256; cuts() = 255
                """);
    }

    private static void piece() {
        Script.run("piece: its KIND (what = 0), x (1), y (2), width (3) and height (4) as it lies, whether it is TURNED (5: 1, 0)", """
                plate(7, 9, 1, 3, 0) = 1; kind(1, 1, 1, false) = 0; kind(4, 3, 100, true) = 1
                defect(0, 0, 4, 9) = 1; defect(4, 0, 3, 5) = 2; worth(0, 0, 7, 9, 1) = 100
                pieces() = 1; piece(0, *) = 1 4 5 3 4 1
                """);
        Script.run("piece: NONE: there is none such: no PIECES", "piece(0, *) = NONE NONE NONE NONE NONE NONE; piece(-1, 0) = NONE");
        Script.refusedIn(TWO, "piece: NONE: there is none such", "piece(#, 0)", "-1 2 3 MIN MAX", "NONE");
        Script.refusedIn(TWO, "piece: NONE: there is none such", "piece(#, 5)", "-1 2 3 MIN MAX", "NONE");
        // Six and seven times these wrap around to small numbers.
        Script.refusedIn(TWO, "piece: NONE: a number whose row wraps around", "piece(#, 0)", "715827883 1431655766 -2147483648 1073741824", "NONE");
        Script.refused("piece: OUTSIDE: what", "piece(0, #)", "-1 6 7 MIN MAX", "OUTSIDE");
        Script.refusedIn(TWO, "piece: OUTSIDE: what", "piece(1, #)", "-1 6 7 MIN MAX", "OUTSIDE");
        Script.run("piece: the last one", TWO + "piece(1, *) = 0 1 0 1 1 0; piece(0, *) = 0 0 0 1 1 0");
    }

    private static void cut() {
        Script.run("cut: its STAGE (what = 0), DIRECTION (1), the column or row (2), x, y, width and height of the PART that is cut (3 to 6)", """
                plate(6, 5, 2, 2, 1) = 1; kind(2, 2, 9, false) = 0; defect(0, 0, 6, 2) = 1; worth(0, 0, 6, 5, 1) = 18; cuts() = 2
                cut(0, *) = 1 1 1 0 0 6 5; cut(1, *) = 2 0 2 0 3 6 2
                """);
        Script.run("cut: the column at which its second PART would begin with KERF 0", """
                plate(9, 1, 2, 1, 0) = 1; kind(1, 1, 1, false) = 0; cuts() = 2; cut(0, *) = 1 0 1 0 0 9 1; cut(1, *) = 1 0 4 3 0 6 1
                """);
        Script.run("cut: the row at which its second PART would begin with KERF 0", """
                plate(1, 9, 2, 1, 1) = 1; kind(1, 1, 1, false) = 0; cuts() = 2; cut(0, *) = 1 1 1 0 0 1 9; cut(1, *) = 1 1 4 0 3 1 6
                """);
        Script.run("cut: NONE: there is none such: no CUTS", "cut(0, *) = NONE NONE NONE NONE NONE NONE NONE; cut(-1, 0) = NONE");
        Script.run("cut: NONE: there is none such: a PIECE without CUTS", "kind(1, 1, 1, true) = 0; pieces() = 1; cut(0, 0) = NONE");
        Script.refusedIn(TWO, "cut: NONE: there is none such", "cut(#, 0)", "-1 1 2 MIN MAX", "NONE");
        Script.refusedIn(TWO, "cut: NONE: there is none such", "cut(#, 6)", "-1 1 2 MIN MAX", "NONE");
        Script.refusedIn(TWO, "cut: NONE: a number whose row wraps around", "cut(#, 0)", "613566757 1227133514 -2147483648 1073741824", "NONE");
        Script.refused("cut: OUTSIDE: what", "cut(0, #)", "-1 7 8 MIN MAX", "OUTSIDE");
        Script.run("cut: the last one", TWO + "cut(0, *) = 1 0 1 0 0 2 1");
    }

    private static void waste() {
        Script.run("waste: all cells, without PIECES", "waste() = 1; plate(16, 16, 0, 1, 0) = 1; waste() = 256; plate(1, 16, 0, 1, 0) = 1; waste() = 16");
        Script.run("waste: none", "plate(16, 16, 0, 1, 0) = 1; kind(16, 16, 1, false) = 0; waste() = 0; noKinds() = 1; waste() = 256");
        Script.run("waste: what the SAW takes", "plate(5, 5, 1, 2, 0) = 1; kind(1, 1, 1, false) = 0; pieces() = 9; waste() = 16");
        Script.run("waste: what is of a DEFECT, and what no KIND fits", """
                plate(5, 2, 0, 1, 0) = 1; kind(2, 2, 5, false) = 0; waste() = 2; defect(2, 1, 1, 1) = 1; waste() = 2
                defect(3, 0, 1, 1) = 2; waste() = 6
                """);
        Script.run("waste: TURNED PIECES", "plate(2, 4, 0, 2, 0) = 1; kind(3, 2, 5, true) = 0; pieces() = 1; waste() = 2");
    }

    private static void afterChanges() {
        Script.run("THE PLAN is that of the PLATE and the KINDS as they are", """
                plate(4, 1, 0, 1, 0) = 1; pieces() = 0; kind(2, 1, 5, false) = 0; pieces() = 2; cuts() = 1; waste() = 0
                defect(1, 0, 1, 1) = 1; pieces() = 1; piece(0, 1) = 2; waste() = 2; kind(1, 1, 3, false) = 1; pieces() = 3; waste() = 1
                value(0, 100) = 5; pieces() = 2; cuts() = 2; plate(4, 1, 0, 1, 0) = 1; pieces() = 2; cuts() = 1
                plate(4, 1, 0, 1, 1) = 1; pieces() = 0; cuts() = 0; noKinds() = 2; pieces() = 0
                """);
        Script.run("asking for it changes nothing", Script.USUAL + """
                worth(0, 0, 4, 4, 1) = 19; pieces() = 3; cuts() = 3; waste() = 8
                worth(0, 0, 4, 4, 1) = 19; pieces() = 3; cuts() = 3; waste() = 8
                """);
    }

    private static void noKinds() {
        Script.run("noKinds: how many there were: none", "noKinds() = 0; told(6) = 0; noKinds() = 0");
        Script.run("noKinds: All KINDS go: how many there were", Script.FULL + """
                noKinds() = 8; told(6) = 0; noKinds() = 0; worth(0, 0, 3, 3, 1) = 0; pieces() = 0; cuts() = 0; waste() = 16
                value(0, 5) = UNKNOWN; value(7, 5) = UNKNOWN
                """);
        Script.run("noKinds: there is room for 8 again, their numbers from 0 on", Script.FULL + """
                kind(1, 1, 1, true) = ROOM; noKinds() = 8; kind(3, 3, 7, false) = 0; worth(0, 0, 3, 3, 1) = 7; kind(1, 1, 2, false) = 1
                kind(1, 1, 2, false) = 2; kind(1, 1, 2, false) = 3; kind(1, 1, 2, false) = 4; kind(1, 1, 2, false) = 5
                kind(1, 1, 2, false) = 6; kind(1, 1, 2, false) = 7; kind(1, 1, 1, true) = ROOM; worth(0, 0, 3, 3, 1) = 18
                """);
        Script.run("noKinds: a KIND that comes is not as the one that had its number", """
                plate(1, 2, 0, 1, 0) = 1; kind(2, 1, 9, true) = 0; pieces() = 1; noKinds() = 1; kind(2, 1, 9, false) = 0; pieces() = 0
                """);
        // What is worth as much as the kind that went has to be cut now.
        Script.run("noKinds: no PIECE is of a KIND that went", """
                plate(2, 1, 0, 1, 0) = 1; kind(1, 1, 2, false) = 0; kind(2, 1, 4, false) = 1; pieces() = 1; piece(0, 0) = 1
                noKinds() = 2; kind(1, 1, 2, false) = 0; pieces() = 2; cuts() = 1; piece(*, 0) = 0 0
                """);
        Script.run("noKinds: the PLATE, its DEFECTS, STOCKS, ORDERS and BLADE stay", Script.USUAL + """
                noKinds() = 2; told(*) = 4 4 1 2 0 1 0 2 2 1; price() = 7; kind(1, 1, 3, false) = 0
                worth(3, 3, 1, 1, 1) = 0; worth(3, 2, 1, 1, 1) = 3
                """);
    }
}
