/** Calls answer, the first of these that fits: UNKNOWN, OUTSIDE, ROOM; then nothing changes. */
public final class Refusals {
    public static void main(String[] args) {
        unknownAheadOfOutside();
        outsideAheadOfRoom();
        outsideAheadOfNone();
        room();
        manyInARow();
        Due.end();
    }

    private static void unknownAheadOfOutside() {
        String sentence = "UNKNOWN ahead of OUTSIDE";
        Script.refused(sentence, "value(8, #)", "0 1001 -1 MIN MAX", "UNKNOWN");
        Script.refused(sentence, "value(-1, #)", "0 1001 -1 MIN MAX", "UNKNOWN");
        Script.refused(sentence, "value(#, #)", "-1 1001 MIN MAX", "UNKNOWN");
        Script.refusedIn(Script.NEW, sentence, "value(0, #)", "0 1001", "UNKNOWN");
        Script.refusedIn(Script.USUAL, sentence, "value(2, #)", "0 1001", "UNKNOWN");
        Script.refused(sentence, "demand(4, #)", "-1 6 MIN MAX", "UNKNOWN");
        Script.refused(sentence, "demand(-1, #)", "-1 6 MIN MAX", "UNKNOWN");
        Script.refused(sentence, "demand(#, #)", "-1 6 MIN MAX", "UNKNOWN");
        Script.refusedIn(Script.NEW, sentence, "demand(0, #)", "-1 6", "UNKNOWN");
        Script.refusedIn(Script.USUAL, sentence, "demand(2, #)", "-1 6", "UNKNOWN");
    }

    private static void outsideAheadOfRoom() {
        String sentence = "OUTSIDE ahead of ROOM";
        Script.refusedIn(Script.FULL, sentence, "defect(#, 0, 1, 1)", "-1 4 MIN MAX", "OUTSIDE");
        Script.refusedIn(Script.FULL, sentence, "defect(0, #, 1, 1)", "-1 4 MIN MAX", "OUTSIDE");
        Script.refusedIn(Script.FULL, sentence, "defect(0, 0, #, 1)", "0 5 MIN MAX", "OUTSIDE");
        Script.refusedIn(Script.FULL, sentence, "defect(0, 0, 1, #)", "0 5 MIN MAX", "OUTSIDE");
        Script.refusedIn(Script.FULL, sentence, "kind(#, 1, 1, true)", "0 17 MIN MAX", "OUTSIDE");
        Script.refusedIn(Script.FULL, sentence, "kind(1, #, 1, true)", "0 17 MIN MAX", "OUTSIDE");
        Script.refusedIn(Script.FULL, sentence, "kind(1, 1, #, true)", "0 1001 MIN MAX", "OUTSIDE");
        Script.refusedIn(Script.FULL, sentence, "stock(#, 1)", "0 100 MIN MAX", "OUTSIDE");
        Script.refusedIn(Script.FULL, sentence, "stock(1, #)", "0 101 MIN MAX", "OUTSIDE");
        Script.refusedIn(Script.FULL, sentence, "order(#, 1)", "0 100 MIN MAX", "OUTSIDE");
        Script.refusedIn(Script.FULL, sentence, "order(1, #)", "-1 6 MIN MAX", "OUTSIDE");
    }

    // NONE is none of the three: a call that one of them fits answers that.
    private static void outsideAheadOfNone() {
        String sentence = "OUTSIDE: what, of a PIECE, CUT or bar that there is not";
        for (String call : new String[] {"piece(#, 6)", "piece(#, -1)", "cut(#, 7)", "cut(#, -1)", "bar(#, 6)", "bar(#, -1)"}) {
            Script.refused(sentence, call, "-1 300 MIN MAX", "OUTSIDE");
        }
        Script.refusedIn("stock(3, 2); order(4, 1)\n", "OUTSIDE: what, of a LIST that is SHORT", "bar(0, #)", "-1 6 MIN MAX", "OUTSIDE");
    }

    private static void room() {
        Script.run("ROOM: the sixth DEFECT, and one more", Script.FULL + "told(5) = 6; defect(0, 0, 1, 1) = ROOM; defect(0, 0, 4, 4) = ROOM; told(5) = 6");
        Script.run("ROOM: the eighth KIND, and one more", Script.FULL + "told(6) = 8; kind(3, 3, 1000, true) = ROOM; kind(1, 1, 1, false) = ROOM; told(6) = 8");
        Script.run("ROOM: the third STOCK, and one more", Script.FULL + "told(7) = 3; stock(20, 1) = ROOM; stock(1, 100) = ROOM; told(7) = 3");
        Script.run("ROOM: the fourth ORDER, and one more", Script.FULL + "told(8) = 4; order(99, 5) = ROOM; order(1, 0) = ROOM; told(8) = 4");
        Script.run("ROOM of one thing is not that of another", """
                stock(5, 1) = 0; stock(5, 1) = 1; stock(5, 1) = 2; stock(5, 1) = ROOM; order(5, 1) = 0; kind(1, 1, 1, true) = 0; defect(0, 0, 1, 1) = 1
                """);
        Script.run("ROOM: what is full may be changed still", Script.FULL + """
                value(7, 1000) = 30; demand(3, 1) = 5; blade(1) = 0; worth(0, 0, 3, 3, 1) = 1000; told(*) = 4 4 0 2 1 6 8 3 4 1
                """);
    }

    private static void manyInARow() {
        StringBuilder rows = new StringBuilder(Script.FULL);
        for (int i = 0; i < 20; i++) {
            rows.append("""
                    defect(0, 0, 1, 1) = ROOM; kind(3, 3, 999, true) = ROOM; stock(20, 1) = ROOM; order(1, 1) = ROOM
                    plate(0, 1, 0, 1, 0) = OUTSIDE; value(8, 1) = UNKNOWN; demand(4, 1) = UNKNOWN; blade(4) = OUTSIDE
                    """);
        }
        rows.append("told(*) = 4 4 0 2 1 6 8 3 4 0; worth(0, 0, 3, 3, 1) = 30; price() = 23; bars() = 5");
        Script.run("then nothing changes, however often it is refused", rows.toString());
    }
}
