/** Promises 2 to 6: the plate, its defects and the kinds, with the bounds of each of their numbers. */
public final class PlateNumbers {
    public static void main(String[] args) {
        plateBounds();
        anotherPlate();
        defectLiesInThePlate();
        defectCells();
        defectsAtMost();
        kindBounds();
        kindsAtMost();
        value();
        worthLiesInThePlate();
        worthStage();
        Due.end();
    }

    private static void plateBounds() {
        Script.run("A PLATE has W by H cells (1 to 16 each): W", """
                plate(1, 5, 1, 2, 1) = 1; told(*) = 1 5 1 2 1; defect(0, 4, 1, 1) = 1; defect(1, 4, 1, 1) = OUTSIDE
                plate(16, 5, 1, 2, 1) = 1; told(*) = 16 5 1 2 1; defect(15, 4, 1, 1) = 1; defect(16, 4, 1, 1) = OUTSIDE
                """);
        Script.refused("A PLATE has W by H cells (1 to 16 each): W", "plate(#, 5, 1, 2, 1)", "0 17 -1 MIN MAX", "OUTSIDE");
        Script.run("A PLATE has W by H cells (1 to 16 each): H", """
                plate(5, 1, 1, 2, 1) = 1; told(*) = 5 1 1 2 1; defect(4, 0, 1, 1) = 1; defect(4, 1, 1, 1) = OUTSIDE
                plate(5, 16, 1, 2, 1) = 1; told(*) = 5 16 1 2 1; defect(4, 15, 1, 1) = 1; defect(4, 16, 1, 1) = OUTSIDE
                """);
        Script.refused("A PLATE has W by H cells (1 to 16 each): H", "plate(5, #, 1, 2, 1)", "0 17 -1 MIN MAX", "OUTSIDE");
        Script.run("The SAW takes KERF cells (0 to 2)", """
                plate(5, 6, 0, 2, 1) = 1; told(*) = 5 6 0 2 1; plate(5, 6, 2, 2, 1) = 1; told(*) = 5 6 2 2 1
                """);
        Script.refused("The SAW takes KERF cells (0 to 2)", "plate(5, 6, #, 2, 1)", "-1 3 MIN MAX", "OUTSIDE");
        Script.run("STAGES (1 to 4)", """
                plate(5, 6, 1, 1, 1) = 1; told(*) = 5 6 1 1 1; plate(5, 6, 1, 4, 1) = 1; told(*) = 5 6 1 4 1
                """);
        Script.refused("STAGES (1 to 4)", "plate(5, 6, 1, #, 1)", "0 5 -1 MIN MAX", "OUTSIDE");
        Script.run("FIRST (0, 1)", """
                plate(5, 6, 1, 2, 1) = 1; told(*) = 5 6 1 2 1; plate(5, 6, 1, 2, 0) = 1; told(*) = 5 6 1 2 0
                """);
        Script.refused("FIRST (0, 1)", "plate(5, 6, 1, 2, #)", "-1 2 MIN MAX", "OUTSIDE");
        Script.run("plate: all numbers are the least, or the greatest", """
                plate(16, 16, 2, 4, 1) = 1; told(*) = 16 16 2 4 1 0; plate(1, 1, 0, 1, 0) = 1; told(*) = 1 1 0 1 0 0
                """);
        Script.refused("plate: more than one number is out of its bounds", "plate(#, #, #, #, #)", "-1 17 MIN MAX", "OUTSIDE");
    }

    private static void anotherPlate() {
        Script.run("plate: Another PLATE, without DEFECTS", """
                plate(3, 1, 0, 1, 0) = 1; kind(1, 1, 7, false) = 0; defect(0, 0, 3, 1) = 1; worth(0, 0, 3, 1, 1) = 0
                plate(4, 1, 0, 1, 0) = 1; told(5) = 0; worth(0, 0, 4, 1, 1) = 28; pieces() = 4; waste() = 0
                defect(0, 0, 1, 1) = 1; worth(0, 0, 4, 1, 1) = 21
                """);
        Script.run("plate: Another PLATE that is like the one before, without DEFECTS", """
                plate(3, 1, 0, 1, 0) = 1; kind(1, 1, 7, false) = 0; defect(0, 0, 3, 1) = 1; worth(0, 0, 3, 1, 1) = 0
                plate(3, 1, 0, 1, 0) = 1; told(5) = 0; worth(0, 0, 3, 1, 1) = 21
                """);
        Script.run("plate: Another PLATE, with fewer STAGES than the one before", """
                kind(1, 1, 1, false) = 0; plate(2, 2, 0, 4, 0) = 1; worth(0, 0, 2, 2, 1) = 4; pieces() = 4
                plate(2, 2, 0, 3, 0) = 1; worth(0, 0, 2, 2, 2) = 4; worth(0, 0, 2, 2, 3) = 0
                plate(2, 2, 0, 2, 0) = 1; worth(0, 0, 2, 2, 1) = 4; worth(0, 0, 2, 2, 2) = 0
                plate(2, 2, 0, 1, 0) = 1; worth(0, 0, 2, 2, 1) = 0; pieces() = 0; cuts() = 0; worth(0, 0, 2, 1, 1) = 2
                """);
        Script.run("plate: Another PLATE, with fewer STAGES than the one before, with DEFECTS", """
                kind(1, 1, 1, false) = 0; plate(3, 2, 0, 4, 0) = 1; defect(0, 0, 1, 1) = 1; worth(0, 0, 3, 2, 1) = 5; pieces() = 5
                plate(3, 2, 0, 1, 0) = 1; defect(0, 0, 1, 1) = 1; worth(0, 0, 3, 2, 1) = 0; worth(0, 0, 3, 1, 1) = 2; pieces() = 0
                """);
        Script.run("plate: Another PLATE, smaller than the one before", """
                kind(1, 1, 1, false) = 0; plate(6, 5, 0, 2, 1) = 1; worth(0, 0, 6, 5, 1) = 30; pieces() = 30
                plate(2, 3, 2, 2, 1) = 1; worth(0, 0, 2, 3, 1) = 0; worth(0, 0, 3, 2, 1) = OUTSIDE; pieces() = 0; waste() = 6
                """);
        Script.run("plate: Another PLATE has room for 6 DEFECTS again", Script.FULL + """
                defect(0, 0, 1, 1) = ROOM; plate(2, 2, 0, 1, 0) = 1; told(5) = 0
                defect(0, 0, 1, 1) = 1; defect(0, 0, 1, 1) = 2; defect(0, 0, 1, 1) = 3
                defect(0, 0, 1, 1) = 4; defect(0, 0, 1, 1) = 5; defect(1, 1, 1, 1) = 6; defect(0, 0, 1, 1) = ROOM
                """);
        Script.run("plate: KINDS stay", Script.FULL + """
                plate(3, 3, 0, 1, 0) = 1; told(6) = 8; worth(0, 0, 3, 3, 1) = 30; piece(0, *) = 7 0 0 3 3 0
                kind(1, 1, 1, true) = ROOM; value(0, 2) = 1; value(7, 31) = 30; worth(0, 0, 3, 3, 1) = 31
                """);
        Script.run("plate: STOCKS, ORDERS and BLADE stay", Script.USUAL + """
                price() = 7; plate(2, 2, 0, 1, 0) = 1; told(7) = 2; told(8) = 2; told(9) = 1; price() = 7; bars() = 2
                """);
    }

    private static void defectLiesInThePlate() {
        Script.run("defect: of w by h cells from x, y on, in the PLATE", """
                plate(6, 4, 0, 2, 0) = 1; defect(0, 0, 6, 4) = 1; defect(5, 3, 1, 1) = 2; defect(0, 0, 1, 1) = 3
                defect(5, 0, 1, 4) = 4; defect(0, 3, 6, 1) = 5; defect(1, 1, 5, 3) = 6
                plate(16, 16, 0, 1, 0) = 1; defect(0, 0, 16, 16) = 1; defect(15, 15, 1, 1) = 2
                """);
        String sentence = "defect: OUTSIDE: w, h below 1";
        Script.refused(sentence, "defect(0, 0, #, 1)", "0 -1 MIN", "OUTSIDE");
        Script.refused(sentence, "defect(0, 0, 1, #)", "0 -1 MIN", "OUTSIDE");
        Script.refused(sentence, "defect(0, 0, #, #)", "0 -1 MIN", "OUTSIDE");
        sentence = "defect: OUTSIDE: it does not lie in the PLATE";
        String plate = "plate(6, 4, 0, 2, 0); kind(1, 1, 3, false)\n";
        Script.refusedIn(plate, sentence, "defect(#, 0, 1, 1)", "-1 6 7 MIN MAX", "OUTSIDE");
        Script.refusedIn(plate, sentence, "defect(0, #, 1, 1)", "-1 4 5 6 MIN MAX", "OUTSIDE");
        Script.refusedIn(plate, sentence, "defect(0, 0, #, 1)", "7 16 MAX", "OUTSIDE");
        Script.refusedIn(plate, sentence, "defect(0, 0, 1, #)", "5 6 16 MAX", "OUTSIDE");
        Script.refusedIn(plate, sentence, "defect(5, 0, #, 1)", "2 7 MAX", "OUTSIDE");
        Script.refusedIn(plate, sentence, "defect(0, 3, 1, #)", "2 5 MAX", "OUTSIDE");
        Script.refusedIn(plate, sentence, "defect(#, 0, 2, 1)", "-1 -2 5", "OUTSIDE");
        Script.refusedIn(plate, sentence, "defect(0, #, 1, 2)", "-1 -2 3", "OUTSIDE");
        sentence = "defect: OUTSIDE: x and w, or y and h, together are no int";
        Script.refusedIn(plate, sentence, "defect(#, 0, #, 1)", "MIN MAX 1073741824", "OUTSIDE");
        Script.refusedIn(plate, sentence, "defect(0, #, 1, #)", "MIN MAX 1073741824", "OUTSIDE");
        Script.refusedIn(plate, sentence, "defect(#, #, #, #)", "MIN MAX 1073741824", "OUTSIDE");
        Script.refusedIn(plate, sentence, "defect(MIN, 0, #, 1)", "-2147483647 1 MAX", "OUTSIDE");
        Script.refusedIn(plate, sentence, "defect(0, MIN, 1, #)", "-2147483647 1 MAX", "OUTSIDE");
    }

    private static void defectCells() {
        Script.run("DEFECTS are rectangles of its cells: of w by h cells from x, y on", """
                plate(5, 6, 0, 1, 0) = 1; kind(1, 1, 1, false) = 0; defect(1, 2, 2, 3) = 1
                worth(0, 2, 1, 1, 1) = 1; worth(1, 2, 1, 1, 1) = 0; worth(2, 2, 1, 1, 1) = 0; worth(3, 2, 1, 1, 1) = 1
                worth(0, 4, 1, 1, 1) = 1; worth(1, 4, 1, 1, 1) = 0; worth(2, 4, 1, 1, 1) = 0; worth(3, 4, 1, 1, 1) = 1
                worth(1, 1, 1, 1, 1) = 1; worth(2, 1, 1, 1, 1) = 1; worth(1, 5, 1, 1, 1) = 1; worth(2, 5, 1, 1, 1) = 1
                worth(1, 3, 1, 1, 1) = 0; worth(0, 1, 1, 1, 1) = 1; worth(3, 5, 1, 1, 1) = 1
                """);
        Script.run("DEFECTS may lie over one another", """
                plate(3, 1, 0, 1, 0) = 1; kind(1, 1, 1, false) = 0; defect(0, 0, 2, 1) = 1; worth(0, 0, 3, 1, 1) = 1
                defect(0, 0, 2, 1) = 2; worth(0, 0, 3, 1, 1) = 1; defect(1, 0, 1, 1) = 3; worth(0, 0, 3, 1, 1) = 1
                defect(1, 0, 2, 1) = 4; worth(0, 0, 3, 1, 1) = 0; told(5) = 4
                """);
    }

    private static void defectsAtMost() {
        Script.run("DEFECTS (6 at most)", """
                plate(7, 1, 0, 1, 0) = 1; kind(1, 1, 1, false) = 0; worth(0, 0, 7, 1, 1) = 7
                defect(0, 0, 1, 1) = 1; defect(1, 0, 1, 1) = 2; defect(2, 0, 1, 1) = 3
                defect(3, 0, 1, 1) = 4; defect(4, 0, 1, 1) = 5; worth(0, 0, 7, 1, 1) = 2
                defect(5, 0, 1, 1) = 6; worth(0, 0, 7, 1, 1) = 1; told(5) = 6
                defect(6, 0, 1, 1) = ROOM; defect(0, 0, 1, 1) = ROOM; defect(0, 0, 7, 1) = ROOM
                told(5) = 6; worth(0, 0, 7, 1, 1) = 1; piece(0, *) = 0 6 0 1 1 0
                """);
    }

    private static void kindBounds() {
        Script.run("KINDS have a width and a height (1 to 16): the width", """
                plate(16, 2, 0, 1, 0) = 1; kind(1, 2, 5, false) = 0; worth(3, 0, 1, 2, 1) = 5
                kind(16, 2, 500, false) = 1; worth(0, 0, 16, 2, 1) = 500; piece(0, *) = 1 0 0 16 2 0
                """);
        Script.refused("KINDS have a width and a height (1 to 16): the width", "kind(#, 2, 5, true)", "0 17 -1 MIN MAX", "OUTSIDE");
        Script.run("KINDS have a width and a height (1 to 16): the height", """
                plate(2, 16, 0, 1, 1) = 1; kind(2, 1, 5, false) = 0; worth(0, 3, 2, 1, 1) = 5
                kind(2, 16, 500, false) = 1; worth(0, 0, 2, 16, 1) = 500; piece(0, *) = 1 0 0 2 16 0
                """);
        Script.refused("KINDS have a width and a height (1 to 16): the height", "kind(2, #, 5, true)", "0 17 -1 MIN MAX", "OUTSIDE");
        Script.run("KINDS have a VALUE (1 to 1000)", """
                kind(1, 1, 1, false) = 0; worth(0, 0, 1, 1, 1) = 1; kind(1, 1, 1000, false) = 1; worth(0, 0, 1, 1, 1) = 1000
                value(0, 5) = 1; value(1, 5) = 1000
                """);
        Script.refused("KINDS have a VALUE (1 to 1000)", "kind(2, 2, #, false)", "0 1001 -1 MIN MAX", "OUTSIDE");
        Script.refused("kind: more than one number is out of its bounds", "kind(#, #, #, true)", "0 1001 MIN MAX", "OUTSIDE");
        Script.run("kind: it may be larger than the PLATE", """
                kind(16, 16, 1000, true) = 0; kind(1, 2, 7, true) = 1; kind(2, 1, 7, true) = 2; told(6) = 3
                worth(0, 0, 1, 1, 1) = 0; pieces() = 0; plate(16, 16, 2, 4, 1) = 1; worth(0, 0, 16, 16, 1) = 1000
                """);
    }

    private static void kindsAtMost() {
        Script.run("KINDS of pieces (8 at most): its number", """
                kind(1, 1, 1, false) = 0; kind(1, 1, 2, false) = 1; kind(1, 1, 3, false) = 2; kind(1, 1, 4, false) = 3
                kind(1, 1, 5, false) = 4; kind(1, 1, 6, false) = 5; kind(1, 1, 7, false) = 6; worth(0, 0, 1, 1, 1) = 7
                kind(1, 1, 8, false) = 7; worth(0, 0, 1, 1, 1) = 8; piece(0, 0) = 7; told(6) = 8
                kind(1, 1, 9, false) = ROOM; kind(1, 1, 8, false) = ROOM; kind(16, 16, 1000, true) = ROOM; told(6) = 8
                worth(0, 0, 1, 1, 1) = 8; piece(0, 0) = 7
                """);
    }

    private static void value() {
        Script.run("value: A KIND'S VALUE is another one: what it was", """
                kind(1, 1, 5, false) = 0; kind(1, 1, 6, false) = 1; worth(0, 0, 1, 1, 1) = 6; piece(0, 0) = 1
                value(0, 7) = 5; worth(0, 0, 1, 1, 1) = 7; piece(0, 0) = 0; value(0, 7) = 7; value(0, 2) = 7
                worth(0, 0, 1, 1, 1) = 6; value(1, 1) = 6; worth(0, 0, 1, 1, 1) = 2; value(1, 3) = 1; told(6) = 2
                """);
        Script.run("value: a VALUE (1 to 1000)", """
                kind(1, 1, 5, false) = 0; value(0, 1) = 5; worth(0, 0, 1, 1, 1) = 1
                value(0, 1000) = 1; worth(0, 0, 1, 1, 1) = 1000; value(0, 5) = 1000
                """);
        Script.refusedIn(Script.USUAL, "value: OUTSIDE", "value(0, #)", "0 1001 -1 MIN MAX", "OUTSIDE");
        Script.refusedIn(Script.USUAL, "value: OUTSIDE", "value(1, #)", "0 1001 -1 MIN MAX", "OUTSIDE");
        Script.refusedIn(Script.FULL, "value: OUTSIDE", "value(7, #)", "0 1001 -1 MIN MAX", "OUTSIDE");
        Script.refused("value: UNKNOWN", "value(#, 5)", "-1 8 9 MIN MAX", "UNKNOWN");
        Script.refusedIn(Script.NEW, "value: UNKNOWN: there are no KINDS", "value(#, 5)", "0 1 7", "UNKNOWN");
        Script.refusedIn(Script.USUAL, "value: UNKNOWN: there are two KINDS", "value(#, 5)", "2 3 7", "UNKNOWN");
        Script.run("value: the eighth KIND'S", Script.FULL + "value(7, 31) = 30; value(7, 1) = 31; value(0, 9) = 1");
    }

    private static void worthLiesInThePlate() {
        Script.run("worth: of w by h cells from x, y on", """
                plate(6, 4, 0, 2, 0) = 1; kind(1, 1, 1, false) = 0
                worth(0, 0, 6, 4, 1) = 24; worth(5, 3, 1, 1, 1) = 1; worth(5, 0, 1, 4, 1) = 4; worth(0, 3, 6, 1, 1) = 6
                worth(1, 2, 3, 2, 1) = 6; worth(4, 1, 2, 3, 1) = 6
                """);
        String plate = "plate(6, 4, 0, 2, 0); kind(1, 1, 3, false)\n";
        String sentence = "worth: OUTSIDE: as at defect()";
        Script.refused(sentence, "worth(0, 0, #, 1, 1)", "0 -1 17 MIN MAX", "OUTSIDE");
        Script.refused(sentence, "worth(0, 0, 1, #, 1)", "0 -1 17 MIN MAX", "OUTSIDE");
        Script.refused(sentence, "worth(#, 0, 1, 1, 1)", "-1 16 MIN MAX", "OUTSIDE");
        Script.refused(sentence, "worth(0, #, 1, 1, 1)", "-1 16 MIN MAX", "OUTSIDE");
        Script.refusedIn(plate, sentence, "worth(#, 0, 1, 1, 1)", "-1 6", "OUTSIDE");
        Script.refusedIn(plate, sentence, "worth(0, #, 1, 1, 1)", "-1 4 5", "OUTSIDE");
        Script.refusedIn(plate, sentence, "worth(0, 0, #, 1, 1)", "7 MAX", "OUTSIDE");
        Script.refusedIn(plate, sentence, "worth(0, 0, 1, #, 1)", "5 6 MAX", "OUTSIDE");
        Script.refusedIn(plate, sentence, "worth(5, 0, #, 1, 1)", "2 MAX", "OUTSIDE");
        Script.refusedIn(plate, sentence, "worth(0, 3, 1, #, 1)", "2 MAX", "OUTSIDE");
        Script.refusedIn(plate, sentence, "worth(#, 0, 2, 1, 1)", "-1 -2 5", "OUTSIDE");
        Script.refusedIn(plate, sentence, "worth(0, #, 1, 2, 1)", "-1 -2 3", "OUTSIDE");
        sentence = "worth: OUTSIDE: x and w, or y and h, together are no int";
        Script.refusedIn(plate, sentence, "worth(#, 0, #, 1, 1)", "MIN MAX 1073741824", "OUTSIDE");
        Script.refusedIn(plate, sentence, "worth(0, #, 1, #, 1)", "MIN MAX 1073741824", "OUTSIDE");
        Script.refusedIn(plate, sentence, "worth(#, #, #, #, #)", "MIN MAX 1073741824", "OUTSIDE");
    }

    private static void worthStage() {
        for (int stages = 1; stages <= 4; stages++) {
            String plate = "plate(2, 2, 0, " + stages + ", 0); kind(1, 1, 3, false)\n";
            Script.run("worth: a STAGE, from 1 on to STAGES", plate + """
                    worth(1, 1, 1, 1, 1) = 3; worth(1, 1, 1, 1, %d) = 3
                    """.formatted(stages));
            String beside = "0 -1 MIN MAX " + (stages + 1);
            Script.refusedIn(plate, "worth: OUTSIDE: the STAGE", "worth(0, 0, 1, 1, #)", beside, "OUTSIDE");
        }
        Script.refused("worth: OUTSIDE: the STAGE", "worth(0, 0, 1, 1, #)", "0 5 MIN MAX", "OUTSIDE");
    }
}
