/** The terms of plates: what may come of a part, what it is worth, and the order in which the plan chooses. */
public final class Parts {
    public static void main(String[] args) {
        directions();
        theWhole();
        nothing();
        justAsLarge();
        turned();
        spoiled();
        leastPartThatIsCut();
        firstAndLastCut();
        behindTheKerf();
        sameStage();
        furtherStage();
        lastStage();
        largestPlate();
        deepestPlan();
        worth();
        whatComesFirst();
        numbersOfKinds();
        numbersOfCuts();
        numbered();
        Due.end();
    }

    private static void directions() {
        String sentence = "The DIRECTION of stage 1 is FIRST (0: its cuts part a width; 1: a height); each further stage has the other one";
        String cell = "kind(1, 1, 1, false) = 0\n";
        String[] sides = {"2, 1", "1, 2"};
        for (int first = 0; first <= 1; first++) {
            for (int stages = 1; stages <= 4; stages++) {
                for (int side = 0; side <= 1; side++) {
                    StringBuilder rows = new StringBuilder(cell);
                    rows.append("plate(%s, 0, %d, %d) = 1\n".formatted(sides[side], stages, first));
                    for (int stage = 1; stage <= stages; stage++) {
                        // All stages but the last one are followed by one of the other direction.
                        boolean parts = stage < stages || (stage + first) % 2 == 1 - side;
                        rows.append("worth(0, 0, %s, %d) = %d\n".formatted(sides[side], stage, parts ? 2 : 0));
                    }
                    Script.run(sentence, rows.toString());
                }
            }
        }
        Script.run("FIRST 0 parts left from right", """
                plate(3, 2, 0, 1, 0) = 1; kind(1, 2, 5, false) = 0; cuts() = 2; cut(*, 1) = 0 0; cut(*, 2) = 1 2
                piece(*, 1) = 0 1 2; piece(*, 2) = 0 0 0; kind(3, 1, 99, false) = 1; worth(0, 0, 3, 2, 1) = 15
                """);
        Script.run("FIRST 1 parts what is above from what is below", """
                plate(2, 3, 0, 1, 1) = 1; kind(2, 1, 5, false) = 0; cuts() = 2; cut(*, 1) = 1 1; cut(*, 2) = 1 2
                piece(*, 1) = 0 0 0; piece(*, 2) = 0 1 2; kind(1, 3, 99, false) = 1; worth(0, 0, 2, 3, 1) = 15
                """);
    }

    private static void theWhole() {
        Script.run("THE WHOLE is the PLATE with stage 1", """
                plate(2, 3, 0, 2, 0) = 1; kind(1, 1, 1, false) = 0
                worth(0, 0, 2, 3, 1) = 6; worth(0, 0, 2, 3, 2) = 0; pieces() = 6; cut(0, *) = 1 0 1 0 0 2 3
                """);
    }

    private static void nothing() {
        Script.run("0 nothing: no KINDS", "plate(16, 16, 0, 4, 0) = 1; worth(0, 0, 16, 16, 1) = 0; pieces() = 0; cuts() = 0; waste() = 256");
        Script.run("0 nothing: no KIND is so small", """
                plate(4, 4, 0, 4, 0) = 1; kind(5, 1, 9, true) = 0; kind(5, 5, 9, false) = 1
                worth(0, 0, 4, 4, 1) = 0; pieces() = 0; cuts() = 0; piece(0, 0) = NONE; cut(0, 0) = NONE; waste() = 16
                """);
        Script.run("0 nothing: all of it is of a DEFECT", """
                plate(4, 4, 0, 4, 0) = 1; kind(1, 1, 9, true) = 0; defect(0, 0, 4, 4) = 1
                worth(0, 0, 4, 4, 1) = 0; pieces() = 0; cuts() = 0; waste() = 16
                """);
        Script.run("0 ahead of 2: a PART whose WORTH is 0 is not cut", """
                plate(4, 1, 0, 1, 0) = 1; kind(1, 1, 1, false) = 0; defect(1, 0, 3, 1) = 1
                cuts() = 1; cut(0, *) = 1 0 1 0 0 4 1; pieces() = 1; piece(0, *) = 0 0 0 1 1 0; waste() = 3
                """);
    }

    private static void justAsLarge() {
        Script.run("1 a PIECE of a KIND that has just its width and height", """
                plate(5, 5, 0, 1, 0) = 1; kind(3, 3, 9, false) = 0
                worth(1, 1, 3, 3, 1) = 9; worth(1, 1, 2, 3, 1) = 0; worth(1, 1, 3, 2, 1) = 0
                worth(1, 1, 3, 4, 1) = 0; worth(1, 1, 4, 4, 1) = 0; worth(1, 1, 4, 3, 1) = 9
                """);
        Script.run("1 a PIECE: the PART is not cut", """
                plate(3, 2, 0, 1, 0) = 1; kind(3, 2, 9, false) = 0; pieces() = 1; piece(0, *) = 0 0 0 3 2 0
                cuts() = 0; cut(0, 0) = NONE; waste() = 0
                """);
        Script.run("1 a PIECE: of the greatest PART", """
                plate(16, 16, 2, 1, 0) = 1; kind(16, 16, 1000, false) = 0; worth(0, 0, 16, 16, 1) = 1000
                pieces() = 1; piece(0, *) = 0 0 0 16 16 0; cuts() = 0; waste() = 0
                """);
    }

    private static void turned() {
        Script.run("TURNED, if it may be: its height and width", """
                plate(2, 3, 0, 1, 0) = 1; kind(3, 2, 5, true) = 0; worth(0, 0, 2, 3, 1) = 5; piece(0, *) = 0 0 0 2 3 1
                plate(3, 2, 0, 1, 0) = 1; worth(0, 0, 3, 2, 1) = 5; piece(0, *) = 0 0 0 3 2 0
                """);
        Script.run("TURNED, if it may be: it may not", """
                plate(2, 3, 0, 1, 0) = 1; kind(3, 2, 5, false) = 0; worth(0, 0, 2, 3, 1) = 0; pieces() = 0
                plate(3, 2, 0, 1, 0) = 1; worth(0, 0, 3, 2, 1) = 5; piece(0, *) = 0 0 0 3 2 0
                """);
        Script.run("piece: whether it is TURNED (of a square KIND 0)", """
                plate(2, 2, 0, 1, 0) = 1; kind(2, 2, 5, true) = 0; piece(0, *) = 0 0 0 2 2 0
                noKinds() = 1; kind(2, 2, 5, false) = 0; piece(0, *) = 0 0 0 2 2 0
                """);
        Script.run("TURNED by its widest side", """
                plate(1, 16, 0, 1, 0) = 1; kind(16, 1, 5, true) = 0; piece(0, *) = 0 0 0 1 16 1
                plate(16, 1, 0, 1, 0) = 1; piece(0, *) = 0 0 0 16 1 0
                """);
    }

    private static void spoiled() {
        String sentence = "1 a PIECE, when no cell of it is of a DEFECT";
        String plate = "plate(5, 5, 0, 1, 0); kind(3, 3, 9, false)\n";
        String[] within = {"1, 1", "3, 1", "1, 3", "3, 3", "2, 2", "2, 1", "1, 2"};
        for (String cell : within) {
            Script.run(sentence, plate + "worth(1, 1, 3, 3, 1) = 9; defect(" + cell + ", 1, 1) = 1; worth(1, 1, 3, 3, 1) = 0");
        }
        String[] beside = {"0, 0, 1, 5", "4, 0, 1, 5", "0, 0, 5, 1", "0, 4, 5, 1"};
        for (String stripe : beside) {
            Script.run(sentence, plate + "defect(" + stripe + ") = 1; worth(1, 1, 3, 3, 1) = 9");
        }
        Script.run(sentence, plate + "defect(0, 0, 5, 1); defect(0, 0, 1, 5); defect(4, 0, 1, 5); defect(0, 4, 5, 1) = 4; worth(1, 1, 3, 3, 1) = 9");
        Script.run(sentence, plate + "defect(2, 2, 3, 3) = 1; worth(1, 1, 3, 3, 1) = 0; worth(2, 2, 3, 3, 1) = 0");
        Script.run("1 a PIECE, TURNED, when no cell of it is of a DEFECT", """
                plate(2, 3, 0, 1, 0) = 1; kind(3, 2, 5, true) = 0; defect(1, 2, 1, 1) = 1; worth(0, 0, 2, 3, 1) = 0
                """);
    }

    private static void leastPartThatIsCut() {
        for (int kerf = 0; kerf <= 2; kerf++) {
            String sentence = "2 a CUT: there is one column behind the KERF at least, KERF " + kerf;
            int least = 2 + kerf;
            String rows = "kind(1, 1, 4, false) = 0; plate(%d, 1, %d, 1, 0) = 1; worth(0, 0, %d, 1, 1) = %d; pieces() = %d; cuts() = %d";
            Script.run(sentence, rows.formatted(least, kerf, least, 8, 2, 1));
            int alone = kerf == 0 ? 1 : 0;
            Script.run(sentence, rows.formatted(least - 1, kerf, least - 1, 4 * alone, alone, 0));
            sentence = "2 a CUT: there is one row behind the KERF at least, KERF " + kerf;
            rows = "kind(1, 1, 4, false) = 0; plate(1, %d, %d, 1, 1) = 1; worth(0, 0, 1, %d, 1) = %d; pieces() = %d; cuts() = %d";
            Script.run(sentence, rows.formatted(least, kerf, least, 8, 2, 1));
            Script.run(sentence, rows.formatted(least - 1, kerf, least - 1, 4 * alone, alone, 0));
        }
    }

    // What is spoiled leaves but one place for the piece, and so but one cut.
    private static void firstAndLastCut() {
        for (int kerf = 0; kerf <= 2; kerf++) {
            int side = 5 + kerf;
            String sentence = "2 a CUT at c, 1 or more: the first c, KERF " + kerf;
            Script.run(sentence, """
                    plate(%d, 1, %d, 1, 0) = 1; kind(4, 1, 6, false) = 0; defect(0, 0, 1, 1) = 1; worth(0, 0, %d, 1, 1) = 6
                    cuts() = 1; cut(0, *) = 1 0 1 0 0 %d 1; piece(0, *) = 0 %d 0 4 1 0; waste() = %d
                    """.formatted(side, kerf, side, side, 1 + kerf, 1 + kerf));
            sentence = "2 a CUT at c: the last c that leaves a column, KERF " + kerf;
            Script.run(sentence, """
                    plate(%d, 1, %d, 1, 0) = 1; kind(4, 1, 6, false) = 0; defect(%d, 0, 1, 1) = 1; worth(0, 0, %d, 1, 1) = 6
                    cuts() = 1; cut(0, *) = 1 0 4 0 0 %d 1; piece(0, *) = 0 0 0 4 1 0; waste() = %d
                    """.formatted(side, kerf, side - 1, side, side, 1 + kerf));
            sentence = "2 a CUT at c: the last c that leaves a row, KERF " + kerf;
            Script.run(sentence, """
                    plate(1, %d, %d, 1, 1) = 1; kind(1, 4, 6, false) = 0; defect(0, %d, 1, 1) = 1; worth(0, 0, 1, %d, 1) = 6
                    cuts() = 1; cut(0, *) = 1 1 4 0 0 1 %d; piece(0, *) = 0 0 0 1 4 0; waste() = %d
                    """.formatted(side, kerf, side - 1, side, side, 1 + kerf));
        }
    }

    private static void behindTheKerf() {
        Script.run("2 a CUT: the second PART with those behind the KERF columns", """
                kind(3, 1, 5, false) = 0
                plate(6, 1, 0, 1, 0) = 1; worth(0, 0, 6, 1, 1) = 10; piece(0, *) = 0 0 0 3 1 0; piece(1, *) = 0 3 0 3 1 0; waste() = 0
                plate(7, 1, 1, 1, 0) = 1; worth(0, 0, 7, 1, 1) = 10; piece(0, *) = 0 0 0 3 1 0; piece(1, *) = 0 4 0 3 1 0; waste() = 1
                plate(8, 1, 2, 1, 0) = 1; worth(0, 0, 8, 1, 1) = 10; piece(0, *) = 0 0 0 3 1 0; piece(1, *) = 0 5 0 3 1 0; waste() = 2
                plate(6, 1, 1, 1, 0) = 1; worth(0, 0, 6, 1, 1) = 5; plate(7, 1, 2, 1, 0) = 1; worth(0, 0, 7, 1, 1) = 5
                """);
        Script.run("2 a CUT: the second PART with those behind the KERF rows", """
                kind(1, 3, 5, false) = 0
                plate(1, 7, 1, 1, 1) = 1; worth(0, 0, 1, 7, 1) = 10; piece(1, *) = 0 0 4 1 3 0; cut(0, *) = 1 1 3 0 0 1 7
                plate(1, 8, 2, 1, 1) = 1; worth(0, 0, 1, 8, 1) = 10; piece(1, *) = 0 0 5 1 3 0; cut(0, *) = 1 1 3 0 0 1 8
                """);
        Script.run("the KERF columns that the SAW takes may be of a DEFECT", """
                kind(3, 1, 5, false) = 0; plate(8, 1, 2, 1, 0) = 1; defect(3, 0, 2, 1) = 1; worth(0, 0, 8, 1, 1) = 10; waste() = 2
                plate(8, 1, 2, 1, 0) = 1; defect(2, 0, 1, 1) = 1; worth(0, 0, 8, 1, 1) = 5
                plate(8, 1, 2, 1, 0) = 1; defect(5, 0, 1, 1) = 1; worth(0, 0, 8, 1, 1) = 5
                """);
    }

    private static void sameStage() {
        Script.run("2 a CUT: two PARTS of the same stage", """
                plate(4, 1, 0, 1, 0) = 1; kind(1, 1, 1, false) = 0; worth(0, 0, 4, 1, 1) = 4
                cuts() = 3; cut(*, 0) = 1 1 1; cut(*, 3) = 0 1 2; cut(*, 5) = 4 3 2
                """);
        Script.run("2 a CUT: a PART of a further stage is not cut as in the one before", """
                plate(2, 2, 0, 2, 0) = 1; kind(1, 1, 1, false) = 0; worth(0, 0, 2, 1, 1) = 2; worth(0, 0, 2, 1, 2) = 0
                worth(0, 0, 2, 2, 1) = 4; worth(0, 0, 2, 2, 2) = 0
                """);
    }

    private static void furtherStage() {
        String kinds = "kind(1, 3, 10, false); kind(2, 1, 10, false); kind(1, 2, 12, false)\n";
        Script.run("3 when there is a further stage: what may come of the same rectangle in that", kinds + """
                plate(3, 3, 0, 1, 0) = 1; worth(0, 0, 3, 3, 1) = 30; plate(3, 3, 0, 2, 0) = 1; worth(0, 0, 3, 3, 1) = 42
                worth(1, 0, 2, 3, 1) = 30; worth(1, 0, 2, 3, 2) = 30; plate(3, 3, 0, 3, 0) = 1; worth(0, 0, 3, 3, 1) = 46
                worth(1, 0, 2, 3, 1) = 34; worth(1, 0, 2, 3, 2) = 34; worth(1, 0, 2, 3, 3) = 20
                """);
        Script.run("3 when there is a further stage: behind the last one there is none", """
                plate(1, 2, 0, 1, 0) = 1; kind(1, 1, 1, false) = 0; worth(0, 0, 1, 2, 1) = 0
                plate(1, 2, 0, 2, 0) = 1; worth(0, 0, 1, 2, 1) = 2; cuts() = 1; cut(0, *) = 2 1 1 0 0 1 2
                """);
        Script.run("3 of THE WHOLE: no CUT is of the stage ahead", """
                plate(3, 3, 1, 4, 1) = 1; kind(1, 3, 2, false) = 0; pieces() = 2; cuts() = 1; cut(0, *) = 2 0 1 0 0 3 3
                piece(0, *) = 0 0 0 1 3 0; piece(1, *) = 0 2 0 1 3 0; waste() = 3
                """);
    }

    // Each row has one piece of 4 by 1 at most; beside six of them there is room for three of 1 by 3.
    private static void lastStage() {
        String kinds = "kind(3, 3, 11, false); kind(4, 1, 10, false); kind(1, 3, 3, false)\n";
        int[] worths = {0, 59, 66, 69};
        for (int stages = 1; stages <= 4; stages++) {
            Script.run("a STAGE, from 1 on to STAGES: there are " + stages, kinds + """
                    plate(6, 6, 0, %d, 0) = 1; defect(4, 1, 1, 1) = 1; defect(0, 5, 1, 1) = 2; worth(0, 0, 6, 6, 1) = %d
                    """.formatted(stages, worths[stages - 1]));
        }
        Script.run("a STAGE, from 1 on to STAGES: a PLAN with CUTS of all four", kinds + """
                plate(6, 6, 0, 4, 0) = 1; defect(4, 1, 1, 1) = 1; defect(0, 5, 1, 1) = 2; pieces() = 9; cuts() = 11; waste() = 3
                cut(*, 0) = 1 2 3 2 3 2 3 4 4 3 2; cut(*, 1) = 0 1 0 1 0 1 0 1 1 0 1; cut(*, 2) = 5 1 1 2 4 5 1 3 4 1 3
                cut(8, *) = 4 1 4 1 3 4 2; cut(10, *) = 2 1 3 5 0 1 6
                piece(*, 0) = 1 1 2 1 1 1 1 2 2; piece(*, 1) = 1 0 0 1 1 1 1 5 5; piece(*, 2) = 0 1 2 2 3 4 5 0 3
                """);
    }

    private static void largestPlate() {
        String cells = "kind(1, 1, 3, false) = 0\n";
        for (int first = 0; first <= 1; first++) {
            // Stage 4 parts a height with FIRST 0 and a width with FIRST 1: whole rows, or whole columns.
            String row = first == 0 ? "kind(16, 1, 3, false) = 0\n" : "kind(1, 16, 3, false) = 0\n";
            String plate = "plate(16, 16, 0, 4, " + first + ") = 1\n";
            Script.run("stage 4 of the largest PLATE", row + plate + """
                    worth(0, 0, 16, 16, 4) = 48; worth(0, 0, 16, 16, 1) = 48; pieces() = 16; cuts() = 15; cut(14, 0) = 2; kind(16, 16, 49, false) = 1
                    worth(0, 0, 16, 16, 4) = 49; worth(0, 0, 16, 16, 1) = 49; pieces() = 1
                    """);
            Script.run("stage 4 of the largest PLATE, its first cell spoiled", row + plate + """
                    kind(16, 16, 99, false) = 1; defect(0, 0, 1, 1) = 1; worth(0, 0, 16, 16, 4) = 45; worth(0, 0, 16, 16, 1) = 45; pieces() = 15
                    """);
            Script.run("stage 4 of the largest PLATE, its last cell spoiled", row + plate + """
                    kind(16, 16, 99, false) = 1; defect(15, 15, 1, 1) = 1; worth(0, 0, 16, 16, 4) = 45; worth(0, 0, 16, 16, 1) = 45; pieces() = 15
                    """);
            Script.run("stage 4: the last cell of the largest PLATE", cells + plate + """
                    worth(15, 15, 1, 1, 4) = 3; defect(0, 0, 1, 1) = 1; worth(15, 15, 1, 1, 4) = 3; worth(0, 0, 1, 1, 4) = 0
                    defect(15, 15, 1, 1) = 2; worth(15, 15, 1, 1, 4) = 0; worth(15, 14, 1, 1, 4) = 3; worth(14, 15, 1, 1, 4) = 3
                    worth(0, 0, 16, 16, 1) = 762; worth(0, 0, 16, 16, 3) = 762; pieces() = 254; waste() = 2
                    """);
        }
    }

    // Nothing but the last corner is clean, so that each side loses one cell a cut, over all four stages.
    private static void deepestPlan() {
        Script.run("THE PLAN that goes as deep as any", """
                plate(16, 16, 0, 4, 0) = 1; defect(0, 0, 14, 16) = 1; defect(14, 0, 2, 12) = 2; defect(15, 14, 1, 1) = 3
                kind(1, 1, 10, false) = 0; kind(2, 1, 100, false) = 1; kind(1, 3, 250, false) = 2
                worth(0, 0, 16, 16, 1) = 370; pieces() = 4; cuts() = 30; waste() = 249
                cut(13, *) = 1 0 14 13 0 3 16; cut(14, *) = 2 1 1 14 0 2 16; cut(26, *) = 2 1 13 14 12 2 4
                cut(27, *) = 3 0 15 14 13 2 3; cut(28, *) = 4 1 14 15 13 1 3; cut(29, *) = 4 1 15 15 14 1 2
                piece(*, 0) = 1 2 0 0; piece(*, 1) = 14 14 15 15; piece(*, 2) = 12 13 13 15; piece(4, 0) = NONE
                """);
        Script.run("THE PLAN that goes as deep as any, with FIRST 1", """
                plate(16, 16, 0, 4, 1) = 1; defect(0, 0, 16, 14) = 1; defect(0, 14, 12, 2) = 2; defect(14, 15, 1, 1) = 3
                kind(1, 1, 10, false) = 0; kind(1, 2, 100, false) = 1; kind(3, 1, 250, false) = 2
                worth(0, 0, 16, 16, 1) = 370; pieces() = 4; cuts() = 30; waste() = 249
                cut(13, *) = 1 1 14 0 13 16 3; cut(14, *) = 2 0 1 0 14 16 2; cut(26, *) = 2 0 13 12 14 4 2
                cut(27, *) = 3 1 15 13 14 3 2; cut(28, *) = 4 0 14 13 15 3 1; cut(29, *) = 4 0 15 14 15 2 1
                piece(*, 0) = 1 2 0 0; piece(*, 1) = 12 13 13 15; piece(*, 2) = 14 14 15 15; piece(4, 0) = NONE
                """);
    }

    private static void worth() {
        Script.run("WORTH of a PART: the greatest sum of VALUES of all PIECES that may come of it", """
                plate(5, 1, 0, 1, 0) = 1; kind(2, 1, 5, false) = 0; worth(0, 0, 5, 1, 1) = 10; kind(3, 1, 8, false) = 1
                worth(0, 0, 5, 1, 1) = 13; kind(5, 1, 14, false) = 2; worth(0, 0, 5, 1, 1) = 14; kind(1, 1, 3, false) = 3
                worth(0, 0, 5, 1, 1) = 15; worth(0, 0, 1, 1, 1) = 3; worth(1, 0, 3, 1, 1) = 9
                """);
        Script.run("WORTH: the greatest there is", """
                plate(16, 16, 0, 2, 0) = 1; kind(1, 1, 1000, false) = 0; worth(0, 0, 16, 16, 1) = 256000
                pieces() = 256; cuts() = 255; waste() = 0; cut(254, *) = 2 1 15 15 14 1 2; cut(255, 0) = NONE
                piece(255, *) = 0 15 15 1 1 0; piece(256, 0) = NONE
                """);
        Script.run("WORTH with a PART spoiled", """
                plate(16, 16, 0, 2, 0) = 1; kind(1, 1, 1000, false) = 0; defect(15, 15, 1, 1) = 1
                worth(0, 0, 16, 16, 1) = 255000; pieces() = 255; waste() = 1; piece(254, *) = 0 15 14 1 1 0
                """);
    }

    private static void whatComesFirst() {
        Script.run("1 ahead of 2", """
                plate(2, 1, 0, 1, 0) = 1; kind(1, 1, 2, false) = 0; kind(2, 1, 4, false) = 1; cuts() = 0; piece(0, *) = 1 0 0 2 1 0
                value(1, 3) = 4; cuts() = 1; pieces() = 2; value(1, 5) = 3; cuts() = 0; pieces() = 1
                """);
        Script.run("1 ahead of 3", """
                plate(1, 2, 0, 2, 0) = 1; kind(1, 1, 2, false) = 0; kind(1, 2, 4, false) = 1; cuts() = 0; piece(0, *) = 1 0 0 1 2 0
                value(1, 3) = 4; cuts() = 1; cut(0, 0) = 2; pieces() = 2
                """);
        Script.run("2 ahead of 3", """
                plate(2, 2, 0, 2, 0) = 1; kind(1, 2, 5, false) = 0; kind(2, 1, 5, false) = 1
                cuts() = 1; cut(0, *) = 1 0 1 0 0 2 2; piece(*, 0) = 0 0
                value(1, 6) = 5; cuts() = 1; cut(0, *) = 2 1 1 0 0 2 2; piece(*, 0) = 1 1
                plate(2, 2, 0, 2, 1) = 1; value(1, 5) = 6; cut(0, *) = 1 1 1 0 0 2 2; piece(*, 0) = 1 1
                """);
    }

    private static void numbersOfKinds() {
        Script.run("of 1 by KINDS' numbers", """
                kind(1, 1, 5, false) = 0; kind(1, 1, 7, true) = 1; kind(1, 1, 7, false) = 2; kind(1, 1, 7, true) = 3
                worth(0, 0, 1, 1, 1) = 7; piece(0, *) = 1 0 0 1 1 0; value(0, 7) = 5; piece(0, 0) = 0
                value(3, 8) = 7; piece(0, 0) = 3
                """);
        Script.run("of 1 by KINDS' numbers: TURNED of a lesser one", """
                plate(2, 3, 0, 1, 0) = 1; kind(3, 2, 5, true) = 0; kind(2, 3, 5, true) = 1; piece(0, *) = 0 0 0 2 3 1
                value(1, 6) = 5; piece(0, *) = 1 0 0 2 3 0
                """);
        Script.run("of 1 by KINDS' numbers: one that may not be TURNED does not come", """
                plate(2, 3, 0, 1, 0) = 1; kind(3, 2, 5, false) = 0; kind(2, 3, 5, false) = 1; kind(3, 2, 5, true) = 2
                piece(0, *) = 1 0 0 2 3 0
                """);
        Script.run("not TURNED ahead of TURNED", """
                plate(3, 3, 0, 1, 0) = 1; kind(3, 3, 5, true) = 0; piece(0, 5) = 0
                """);
    }

    private static void numbersOfCuts() {
        Script.run("of 2 by c", """
                plate(5, 1, 0, 1, 0) = 1; kind(2, 1, 5, false) = 0; cuts() = 2
                cut(0, *) = 1 0 1 0 0 5 1; cut(1, *) = 1 0 3 1 0 4 1
                piece(0, *) = 0 1 0 2 1 0; piece(1, *) = 0 3 0 2 1 0; waste() = 1
                """);
        Script.run("of 2 by c: the first that leads to its WORTH", """
                plate(5, 1, 0, 1, 0) = 1; kind(2, 1, 5, false) = 0; kind(3, 1, 8, false) = 1
                cuts() = 1; cut(0, *) = 1 0 2 0 0 5 1; piece(*, 0) = 0 1
                defect(1, 0, 1, 1) = 1; worth(0, 0, 5, 1, 1) = 8; cuts() = 2; cut(*, 2) = 1 2; piece(0, *) = 1 2 0 3 1 0
                """);
        Script.run("of 2 by c: of a height", """
                plate(1, 5, 1, 1, 1) = 1; kind(1, 2, 5, false) = 0; worth(0, 0, 1, 5, 1) = 10; cut(0, *) = 1 1 2 0 0 1 5
                plate(1, 6, 1, 1, 1) = 1; worth(0, 0, 1, 6, 1) = 5; cuts() = 2; cut(0, *) = 1 1 1 0 0 1 6; cut(1, *) = 1 1 3 0 2 1 4
                pieces() = 1; piece(0, *) = 0 0 4 1 2 0
                """);
    }

    private static void numbered() {
        Script.run("PIECES and CUTS are numbered as they come: a CUT, then all that comes of its first PART, then all of its second", """
                plate(2, 2, 0, 2, 0) = 1; kind(1, 1, 1, false) = 0; pieces() = 4; cuts() = 3
                cut(0, *) = 1 0 1 0 0 2 2; cut(1, *) = 2 1 1 0 0 1 2; cut(2, *) = 2 1 1 1 0 1 2
                piece(0, *) = 0 0 0 1 1 0; piece(1, *) = 0 0 1 1 1 0; piece(2, *) = 0 1 0 1 1 0; piece(3, *) = 0 1 1 1 1 0
                """);
        // A whole row is worth 11, three single cells of it between the kerfs 12.
        Script.run("PIECES and CUTS are numbered as they come, with KERF 1", """
                plate(5, 3, 1, 2, 1) = 1; kind(5, 1, 11, false) = 0; kind(1, 1, 4, false) = 1; pieces() = 6; cuts() = 5; waste() = 9
                cut(0, *) = 1 1 1 0 0 5 3; cut(1, *) = 2 0 1 0 0 5 1; cut(2, *) = 2 0 3 2 0 3 1
                cut(3, *) = 2 0 1 0 2 5 1; cut(4, *) = 2 0 3 2 2 3 1
                piece(*, 0) = 1 1 1 1 1 1; piece(*, 1) = 0 2 4 0 2 4; piece(*, 2) = 0 0 0 2 2 2
                """);
    }
}
