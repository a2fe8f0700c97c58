/** Promises 1 and 19: what a new object is, and what is told of an object. */
public final class NewObject {
    public static void main(String[] args) {
        newPlate();
        newBars();
        told();
        objectsOfTheirOwn();
        lastCall();
        Due.end();
    }

    private static void newPlate() {
        Script.run("A new object: A PLATE of 1 by 1, KERF 0, STAGES 1, FIRST 0, without DEFECTS; no KINDS, STOCKS, ORDERS; BLADE 0",
                "told(*) = 1 1 0 1 0 0 0 0 0 0");
        Script.run("A new object: A PLATE of 1 by 1", """
                waste() = 1; worth(0, 0, 1, 1, 1) = 0
                worth(0, 0, 2, 1, 1) = OUTSIDE; worth(0, 0, 1, 2, 1) = OUTSIDE
                worth(1, 0, 1, 1, 1) = OUTSIDE; worth(0, 1, 1, 1, 1) = OUTSIDE
                defect(0, 0, 2, 1) = OUTSIDE; defect(0, 0, 1, 2) = OUTSIDE; defect(0, 0, 1, 1) = 1
                """);
        Script.run("A new object: STAGES 1", """
                worth(0, 0, 1, 1, 0) = OUTSIDE; worth(0, 0, 1, 1, 1) = 0; worth(0, 0, 1, 1, 2) = OUTSIDE
                """);
        Script.run("A new object: without DEFECTS", """
                kind(1, 1, 5, true) = 0; worth(0, 0, 1, 1, 1) = 5; pieces() = 1; piece(0, *) = 0 0 0 1 1 0
                cuts() = 0; cut(0, 0) = NONE; waste() = 0; defect(0, 0, 1, 1) = 1; worth(0, 0, 1, 1, 1) = 0
                """);
        Script.run("A new object: no KINDS", """
                pieces() = 0; piece(0, 0) = NONE; cuts() = 0; cut(0, 0) = NONE
                value(0, 1) = UNKNOWN; noKinds() = 0; kind(1, 1, 1, false) = 0
                """);
    }

    private static void newBars() {
        Script.run("A new object: no STOCKS", "order(1, 1) = 0; price() = NONE; noBars() = 1; stock(1, 1) = 0");
        Script.run("A new object: no ORDERS", """
                demand(0, 0) = UNKNOWN; price() = 0; bars() = 0; bar(0, 0) = NONE
                stock(1, 1) = 0; price() = 0; noBars() = 1; order(1, 1) = 0
                """);
        Script.run("A new object: BLADE 0", """
                stock(4, 1) = 0; order(2, 2) = 0; bars() = 1; bar(0, *) = 0 0 2 0 0 0; blade(0) = 0
                """);
    }

    private static void told() {
        Script.run("told: W (what = 0), H (1), KERF (2), STAGES (3), FIRST (4), how many DEFECTS (5), KINDS (6), STOCKS (7), ORDERS (8), BLADE (9)", """
                plate(7, 9, 2, 4, 1) = 1
                defect(0, 0, 1, 1) = 1; defect(0, 0, 1, 1) = 2; defect(0, 0, 1, 1) = 3; defect(0, 0, 1, 1) = 4; defect(0, 0, 1, 1) = 5
                kind(1, 1, 1, true) = 0; kind(1, 1, 1, true) = 1; kind(1, 1, 1, true) = 2
                kind(1, 1, 1, true) = 3; kind(1, 1, 1, true) = 4; kind(1, 1, 1, true) = 5
                stock(1, 1) = 0; stock(1, 1) = 1; stock(1, 1) = 2
                order(1, 1) = 0; order(1, 1) = 1; order(1, 1) = 2; order(1, 1) = 3
                blade(3) = 0
                told(*) = 7 9 2 4 1 5 6 3 4 3
                """);
        Script.run("told changes nothing", Script.USUAL + """
                told(*) = 4 4 1 2 0 1 2 2 2 1
                told(*) = 4 4 1 2 0 1 2 2 2 1
                """);
        Script.refused("told: OUTSIDE", "told(#)", "-1 10 11 MIN MAX", "OUTSIDE");
    }

    private static void objectsOfTheirOwn() {
        Due.sentence("an object's calls change that object alone");
        CuttingRules one = new CuttingRules();
        CuttingRules other = new CuttingRules();
        one.plate(3, 2, 1, 2, 1);
        one.defect(0, 0, 1, 1);
        one.kind(1, 1, 9, false);
        one.stock(5, 5);
        one.order(5, 5);
        one.blade(3);
        Due.is("worth of the first", one.worth(2, 1, 1, 1, 2), 9);
        Due.is("price of the first", one.price(), 25);
        int[] due = {1, 1, 0, 1, 0, 0, 0, 0, 0, 0};
        for (int what = 0; what < due.length; what++) {
            Due.is("told(" + what + ") of the second", other.told(what), due[what]);
        }
        other.kind(1, 1, 4, false);
        Due.is("worth of the second", other.worth(0, 0, 1, 1, 1), 4);
        Due.is("price of the second", other.price(), 0);
        Due.is("worth of the first again", one.worth(2, 1, 1, 1, 2), 9);
        Due.is("bars of the first again", one.bars(), 5);
    }

    private static void lastCall() {
        Due.sentence("An object is used for at most 512 calls after it has been made");
        CuttingRules x = new CuttingRules();
        x.plate(5, 3, 0, 2, 0);
        x.kind(1, 1, 1, false);
        x.stock(3, 1);
        x.order(3, 1);
        for (int call = 5; call <= 512; call += 4) {
            int value = 1 + call % 1000;
            x.value(0, value);
            Due.is("worth, call " + (call + 1), x.worth(0, 0, 5, 3, 1), 15 * value);
            x.demand(0, call % 6);
            Due.is("price, call " + (call + 3), x.price(), call % 6);
        }
    }
}
