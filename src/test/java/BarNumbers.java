/** Promises 12 to 15 and 21: stocks, orders and the blade, with the bounds of each of their numbers. */
public final class BarNumbers {
    public static void main(String[] args) {
        stockBounds();
        stocksAtMost();
        orderBounds();
        ordersAtMost();
        demand();
        blade();
        noBars();
        Due.end();
    }

    private static void stockBounds() {
        Script.run("STOCKS have a LENGTH (1 to 99)", """
                stock(1, 7) = 0; order(1, 1) = 0; price() = 7; bar(0, *) = 0 0 1 0 0 0
                noBars() = 2; stock(99, 7) = 0; order(99, 1) = 0; price() = 7; bar(0, *) = 0 0 1 0 0 0
                noBars() = 2; stock(99, 7) = 0; order(1, 1) = 0; bar(0, *) = 0 98 1 0 0 0
                """);
        Script.refused("STOCKS have a LENGTH (1 to 99)", "stock(#, 5)", "0 100 -1 MIN MAX", "OUTSIDE");
        Script.run("STOCKS have a PRICE (1 to 100)", """
                stock(5, 100) = 0; order(5, 1) = 0; price() = 100; stock(5, 1) = 1; price() = 1; bar(0, 0) = 1
                """);
        Script.refused("STOCKS have a PRICE (1 to 100)", "stock(5, #)", "0 101 -1 MIN MAX", "OUTSIDE");
        Script.refused("stock: more than one number is out of its bounds", "stock(#, #)", "0 101 MIN MAX", "OUTSIDE");
    }

    private static void stocksAtMost() {
        Script.run("STOCKS (3 at most): its number", """
                order(5, 1) = 0; stock(5, 9) = 0; price() = 9; stock(5, 8) = 1; price() = 8; stock(5, 7) = 2; price() = 7; told(7) = 3
                stock(5, 6) = ROOM; stock(5, 7) = ROOM; stock(1, 1) = ROOM; stock(99, 100) = ROOM; told(7) = 3; price() = 7; bar(0, 0) = 2
                """);
    }

    private static void orderBounds() {
        Script.run("ORDERS have a LENGTH (1 to 99)", """
                stock(99, 3) = 0; order(1, 1) = 0; bar(0, *) = 0 98 1 0 0 0; order(99, 1) = 1; bars() = 2
                bar(0, *) = 0 98 1 0 0 0; bar(1, *) = 0 0 0 1 0 0
                """);
        Script.refused("ORDERS have a LENGTH (1 to 99)", "order(#, 2)", "0 100 -1 MIN MAX", "OUTSIDE");
        Script.run("ORDERS have a DEMAND (0 to 5)", """
                stock(5, 3) = 0; order(5, 0) = 0; bars() = 0; order(5, 5) = 1; bars() = 5; price() = 15; demand(0, 0) = 0; demand(1, 0) = 5
                """);
        Script.refused("ORDERS have a DEMAND (0 to 5)", "order(5, #)", "-1 6 MIN MAX", "OUTSIDE");
        Script.refused("order: more than one number is out of its bounds", "order(#, #)", "-1 100 MIN MAX", "OUTSIDE");
    }

    private static void ordersAtMost() {
        Script.run("ORDERS (4 at most): its number", """
                stock(10, 2) = 0; order(10, 1) = 0; order(10, 1) = 1; order(10, 1) = 2; bars() = 3; order(10, 1) = 3; bars() = 4; told(8) = 4
                order(10, 1) = ROOM; order(1, 0) = ROOM; order(99, 5) = ROOM; told(8) = 4; bars() = 4; price() = 8
                bar(3, *) = 0 0 0 0 0 1
                """);
    }

    private static void demand() {
        Script.run("demand: An ORDER'S DEMAND is another one: what it was", """
                stock(10, 3) = 0; order(10, 2) = 0; order(9, 1) = 1; price() = 9; demand(0, 4) = 2; price() = 15; demand(0, 4) = 4
                demand(1, 3) = 1; bars() = 7; demand(0, 1) = 4; bars() = 4; demand(1, 0) = 3; bars() = 1; demand(0, 2) = 1; bars() = 2
                """);
        Script.run("demand: a DEMAND (0 to 5)", """
                stock(10, 3) = 0; order(10, 2) = 0; demand(0, 0) = 2; price() = 0; bars() = 0; bar(0, 0) = NONE
                demand(0, 5) = 0; price() = 15; bars() = 5; bar(4, 0) = 0; bar(5, 0) = NONE; demand(0, 5) = 5
                """);
        Script.refusedIn(Script.USUAL, "demand: OUTSIDE", "demand(0, #)", "-1 6 MIN MAX", "OUTSIDE");
        Script.refusedIn(Script.USUAL, "demand: OUTSIDE", "demand(1, #)", "-1 6 MIN MAX", "OUTSIDE");
        Script.refusedIn(Script.FULL, "demand: OUTSIDE", "demand(3, #)", "-1 6 MIN MAX", "OUTSIDE");
        Script.refused("demand: UNKNOWN", "demand(#, 2)", "-1 4 5 MIN MAX", "UNKNOWN");
        Script.refusedIn(Script.NEW, "demand: UNKNOWN: there are no ORDERS", "demand(#, 2)", "0 1 3", "UNKNOWN");
        Script.refusedIn(Script.USUAL, "demand: UNKNOWN: there are two ORDERS", "demand(#, 2)", "2 3", "UNKNOWN");
        Script.run("demand: the fourth ORDER'S", Script.FULL + "demand(3, 1) = 5; demand(3, 0) = 1; demand(0, 2) = 5");
        Script.run("demand: UNKNOWN: STOCKS are no ORDERS", "stock(5, 5) = 0; demand(0, 2) = UNKNOWN");
    }

    private static void blade() {
        Script.run("BLADE (0 to 3): what it was", """
                blade(0) = 0; told(9) = 0; blade(3) = 0; told(9) = 3; blade(3) = 3; blade(0) = 3; told(9) = 0; blade(1) = 0; blade(2) = 1; told(9) = 2
                """);
        Script.refused("blade: OUTSIDE", "blade(#)", "-1 4 MIN MAX", "OUTSIDE");
        Script.refusedIn("blade(3)\n", "blade: OUTSIDE", "blade(#)", "-1 4 MIN MAX", "OUTSIDE");
    }

    private static void noBars() {
        Script.run("noBars: how many there were: none", "noBars() = 0; told(7) = 0; told(8) = 0; noBars() = 0");
        Script.run("noBars: how many there were: STOCKS alone", "stock(5, 5) = 0; noBars() = 1; noBars() = 0");
        Script.run("noBars: how many there were: ORDERS alone", """
                order(5, 5) = 0; order(5, 5) = 1; price() = NONE; noBars() = 2; noBars() = 0; price() = 0
                """);
        Script.run("noBars: All STOCKS and ORDERS go: how many there were", Script.FULL + """
                noBars() = 7; told(7) = 0; told(8) = 0; noBars() = 0; price() = 0; bars() = 0; bar(0, 0) = NONE
                demand(0, 1) = UNKNOWN; demand(3, 1) = UNKNOWN
                """);
        Script.run("noBars: there is room for 3 and for 4 again, their numbers from 0 on", Script.FULL + """
                stock(5, 5) = ROOM; order(5, 5) = ROOM; noBars() = 7; stock(5, 5) = 0; stock(5, 4) = 1; stock(5, 3) = 2; stock(5, 2) = ROOM
                order(5, 1) = 0; price() = 3; order(5, 0) = 1; order(5, 0) = 2; order(5, 1) = 3; order(5, 1) = ROOM; price() = 6
                """);
        Script.run("noBars: no bar is of a STOCK that went", """
                stock(9, 9) = 0; stock(9, 1) = 1; order(5, 1) = 0; price() = 1; noBars() = 3; order(5, 1) = 0; price() = NONE
                stock(9, 9) = 0; price() = 9; bar(0, *) = 0 4 1 0 0 0
                """);
        Script.run("noBars: no bar has pieces of an ORDER that went", """
                stock(9, 9) = 0; order(5, 1) = 0; order(9, 5) = 1; bars() = 6; noBars() = 3; stock(9, 9) = 0; bars() = 0
                order(5, 1) = 0; bars() = 1; bar(0, *) = 0 4 1 0 0 0; order(4, 0) = 1; bars() = 1
                """);
        Script.run("noBars: the PLATE, its DEFECTS, KINDS and BLADE stay", Script.USUAL + """
                noBars() = 4; told(*) = 4 4 1 2 0 1 2 0 0 1; worth(0, 0, 4, 4, 1) = 19; blade(0) = 1
                """);
        Script.run("noBars: BLADE stays, and counts", """
                blade(3) = 0; stock(5, 1) = 0; order(1, 2) = 0; bars() = 1; noBars() = 2; told(9) = 3
                stock(4, 1) = 0; order(1, 2) = 0; bars() = 2
                """);
    }
}
