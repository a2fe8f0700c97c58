/** Promises 16 to 18 and the terms of bars: patterns, their stocks, and the order in which the list chooses. */
public final class Lists {
    public static void main(String[] args) {
        withoutDemands();
        shortLists();
        whatAPatternWants();
        stockOfAPattern();
        justTheDemands();
        leastPrice();
        fewestBars();
        greatestPattern();
        mostBars();
        bar();
        afterChanges();
        Due.end();
    }

    private static void withoutDemands() {
        Script.run("price, bars: 0 without DEMANDS: no ORDERS", "stock(9, 9) = 0; price() = 0; bars() = 0; bar(0, 0) = NONE");
        Script.run("price, bars: 0 without DEMANDS: no ORDERS, no STOCKS", "price() = 0; bars() = 0; bar(0, 0) = NONE");
        Script.run("price, bars: 0 without DEMANDS: DEMANDS of 0", """
                stock(9, 9) = 0; order(4, 0) = 0; order(5, 0) = 1; order(6, 0) = 2; order(7, 0) = 3; price() = 0; bars() = 0; bar(0, 0) = NONE
                """);
        Script.run("price, bars: 0 without DEMANDS: DEMANDS of 0, no STOCKS", "order(4, 0) = 0; price() = 0; bars() = 0; bar(0, 0) = NONE");
    }

    private static void shortLists() {
        Script.run("SHORT: no STOCKS", "order(1, 1) = 0; price() = NONE; bars() = NONE; bar(0, *) = NONE NONE NONE NONE NONE NONE");
        Script.run("SHORT: some ORDER that has a DEMAND is longer than each STOCK", """
                stock(8, 1) = 0; stock(7, 1) = 1; order(9, 1) = 0; price() = NONE; bars() = NONE; bar(0, 0) = NONE; bar(0, 1) = NONE
                stock(9, 5) = 2; price() = 5; bars() = 1; bar(0, *) = 2 0 1 0 0 0
                """);
        Script.run("SHORT: one of the ORDERS alone", """
                stock(8, 1) = 0; order(4, 5) = 0; order(9, 1) = 1; price() = NONE; bars() = NONE; bar(0, 0) = NONE
                demand(1, 0) = 1; price() = 3; bars() = 3; demand(1, 1) = 0; price() = NONE; demand(0, 0) = 5; price() = NONE
                """);
        Script.run("SHORT: an ORDER without a DEMAND may be longer than each STOCK", """
                stock(8, 1) = 0; order(99, 0) = 0; price() = 0; bars() = 0; order(8, 1) = 1; price() = 1; bar(0, *) = 0 0 0 1 0 0
                """);
        Script.run("SHORT: the greatest LENGTH", """
                stock(98, 1) = 0; order(99, 1) = 0; price() = NONE; stock(99, 1) = 1; price() = 1; bar(0, 0) = 1
                """);
        Script.run("SHORT: BLADE does not make it so", """
                blade(3) = 0; stock(9, 2) = 0; order(9, 5) = 0; price() = 10; bars() = 5
                """);
    }

    private static void whatAPatternWants() {
        String[] rows = {
            // One piece wants no blade, two want one, three want two.
            "stock(10, 1) = 0; order(10, 1) = 0; bars() = 1; bar(0, *) = 0 0 1 0 0 0",
            "stock(11, 1) = 0; order(5, 2) = 0; bars() = %d",
            "stock(12, 1) = 0; order(4, 3) = 0; bars() = %d",
            "stock(18, 1) = 0; order(4, 2) = 0; order(3, 2) = 1; bars() = %d",
        };
        int[][] bars = {{1, 1, 1, 1}, {1, 1, 2, 2}, {1, 2, 2, 2}, {1, 1, 2, 2}};
        for (int blade = 0; blade <= 3; blade++) {
            for (int i = 0; i < rows.length; i++) {
                Script.run("It WANTS their LENGTHS together, and BLADE for each piece but one, BLADE " + blade,
                        "blade(" + blade + ") = 0; " + rows[i].formatted(bars[i][blade]));
            }
        }
        Script.run("It WANTS their LENGTHS together, and BLADE for each piece but one: what is left", """
                stock(20, 1) = 0; order(4, 2) = 0; order(3, 1) = 1; bar(0, *) = 0 9 2 1 0 0; blade(1) = 0; bar(0, *) = 0 7 2 1 0 0
                blade(2) = 1; bar(0, *) = 0 5 2 1 0 0; blade(3) = 2; bar(0, *) = 0 3 2 1 0 0; demand(1, 0) = 1; bar(0, *) = 0 9 2 0 0 0
                demand(0, 1) = 2; bar(0, *) = 0 16 1 0 0 0
                """);
        Script.run("It WANTS: just as long as the STOCK, and one more", """
                blade(2) = 0; stock(20, 1) = 0; order(4, 2) = 0; order(8, 1) = 1; bars() = 1; bar(0, *) = 0 0 2 1 0 0
                noBars() = 3; stock(20, 1) = 0; order(4, 2) = 0; order(9, 1) = 1; bars() = 2
                """);
    }

    private static void stockOfAPattern() {
        Script.run("Its STOCK: of those that are at least as long", """
                stock(4, 1) = 0; stock(5, 2) = 1; stock(6, 2) = 2; order(5, 1) = 0; price() = 2; bar(0, *) = 1 0 1 0 0 0
                noBars() = 4; stock(4, 1) = 0; stock(6, 2) = 1; stock(5, 2) = 2; order(5, 1) = 0; bar(0, *) = 1 1 1 0 0 0
                """);
        Script.run("Its STOCK: the one of the least PRICE", """
                stock(9, 7) = 0; order(5, 1) = 0; bar(0, *) = 0 4 1 0 0 0; stock(99, 6) = 1; price() = 6; bar(0, *) = 1 94 1 0 0 0
                stock(5, 5) = 2; price() = 5; bar(0, *) = 2 0 1 0 0 0
                """);
        Script.run("Its STOCK: of these of the least number", """
                stock(20, 9) = 0; stock(9, 7) = 1; stock(5, 7) = 2; order(5, 1) = 0; bar(0, *) = 1 4 1 0 0 0
                noBars() = 4; stock(9, 7) = 0; stock(9, 7) = 1; stock(9, 7) = 2; order(5, 1) = 0; bar(0, *) = 0 4 1 0 0 0
                """);
    }

    private static void justTheDemands() {
        Script.run("THE LIST: PATTERNS that are together just the DEMANDS", """
                stock(12, 5) = 0; order(3, 5) = 0; price() = 10; bars() = 2; bar(0, *) = 0 0 4 0 0 0; bar(1, *) = 0 9 1 0 0 0
                """);
        Script.run("A PATTERN is not all none", "stock(12, 5) = 0; order(3, 1) = 0; order(3, 0) = 1; bars() = 1; bar(1, 0) = NONE");
        Script.run("there are as many bars of each as are wanted", """
                stock(7, 2) = 0; order(7, 5) = 0; order(6, 5) = 1; bars() = 10; price() = 20; bar(*, 0) = 0 0 0 0 0 0 0 0 0 0 NONE
                """);
    }

    private static void leastPrice() {
        Script.run("THE LIST: PRICES together are the least, ahead of the fewest bars", """
                stock(10, 9) = 0; stock(5, 4) = 1; order(5, 2) = 0; price() = 8; bars() = 2
                bar(0, *) = 1 0 1 0 0 0; bar(1, *) = 1 0 1 0 0 0
                """);
        Script.run("THE LIST: the least PRICES, though more is left over", """
                stock(5, 50) = 0; stock(99, 99) = 1; order(5, 2) = 0; price() = 99; bars() = 1; bar(0, *) = 1 89 2 0 0 0
                """);
        // The first bar that takes the most would leave what costs more.
        Script.run("THE LIST: the least PRICES, ahead of the greatest PATTERN", """
                stock(6, 10) = 0; stock(2, 1) = 1; order(2, 3) = 0; order(4, 1) = 1; price() = 12; bars() = 3
                bar(0, *) = 0 0 1 1 0 0; bar(1, *) = 1 0 1 0 0 0; bar(2, *) = 1 0 1 0 0 0
                """);
    }

    private static void fewestBars() {
        Script.run("THE LIST: of such, the fewest bars", """
                stock(10, 8) = 0; stock(5, 4) = 1; order(5, 2) = 0; price() = 8; bars() = 1; bar(0, *) = 0 0 2 0 0 0
                noBars() = 3; stock(5, 4) = 0; stock(10, 8) = 1; order(5, 2) = 0; price() = 8; bars() = 1; bar(0, *) = 1 0 2 0 0 0
                """);
        Script.run("THE LIST: the fewest bars, ahead of the greatest PATTERN", """
                stock(10, 8) = 0; stock(6, 4) = 1; order(4, 2) = 0; order(6, 2) = 1; price() = 16; bars() = 2
                bar(0, *) = 0 0 1 1 0 0; bar(1, *) = 0 0 1 1 0 0
                """);
    }

    private static void greatestPattern() {
        String sentence = "THE LIST: bar by bar, of the PATTERNS with which this can be so still the greatest";
        Script.run(sentence + ": the most of ORDER 0", """
                stock(6, 1) = 0; order(2, 2) = 0; order(3, 2) = 1; price() = 2; bar(0, *) = 0 2 2 0 0 0; bar(1, *) = 0 0 0 2 0 0
                """);
        Script.run(sentence + ": of these the most of 1", """
                stock(6, 1) = 0; order(3, 2) = 0; order(2, 1) = 1; order(1, 2) = 2; price() = 2
                bar(0, *) = 0 0 2 0 0 0; bar(1, *) = 0 2 0 1 2 0
                noBars() = 4; stock(6, 1) = 0; order(1, 2) = 0; order(4, 1) = 1; order(2, 2) = 2; price() = 2
                bar(0, *) = 0 0 2 1 0 0; bar(1, *) = 0 2 0 0 2 0
                """);
        Script.run(sentence + ": and so on", """
                stock(5, 1) = 0; order(2, 1) = 0; order(3, 0) = 1; order(1, 3) = 2; order(1, 4) = 3; price() = 2
                bar(0, *) = 0 0 1 0 3 0; bar(1, *) = 0 1 0 0 0 4
                demand(2, 2) = 3; bar(0, *) = 0 0 1 0 2 1; bar(1, *) = 0 2 0 0 0 3
                """);
        Script.run(sentence + ": the second bar's, too", """
                stock(4, 1) = 0; order(4, 1) = 0; order(1, 2) = 1; order(2, 1) = 2; order(3, 1) = 3; price() = 3; bars() = 3
                bar(0, *) = 0 0 1 0 0 0; bar(1, *) = 0 0 0 2 1 0; bar(2, *) = 0 1 0 0 0 1
                """);
        Script.run(sentence + ": as ORDERS' numbers say, not as their LENGTHS", """
                stock(5, 1) = 0; order(2, 1) = 0; order(5, 1) = 1; order(3, 1) = 2; bars() = 2
                bar(0, *) = 0 0 1 0 1 0; bar(1, *) = 0 0 0 1 0 0
                """);
    }

    private static void mostBars() {
        Script.run("the most bars there are", """
                stock(99, 100) = 0; order(99, 5) = 0; order(99, 5) = 1; order(99, 5) = 2; order(99, 5) = 3; bars() = 20; price() = 2000
                bar(0, *) = 0 0 1 0 0 0; bar(4, *) = 0 0 1 0 0 0; bar(5, *) = 0 0 0 1 0 0; bar(19, *) = 0 0 0 0 0 1; bar(20, 0) = NONE
                """);
        Script.run("the most pieces on a bar", """
                stock(99, 1) = 0; order(1, 5) = 0; order(1, 5) = 1; order(1, 5) = 2; order(1, 5) = 3; blade(3) = 0
                price() = 1; bars() = 1; bar(0, *) = 0 22 5 5 5 5; bar(1, 0) = NONE
                """);
    }

    private static void bar() {
        String one = "stock(9, 2); order(4, 1)\n";
        Script.run("bar: its STOCK (what = 0), the STOCK's LENGTH less what the PATTERN WANTS (1), how many of ORDER k (2 + k)", """
                stock(50, 100) = 0; stock(40, 7) = 1; order(1, 1) = 0; order(2, 2) = 1; order(3, 3) = 2; order(4, 4) = 3; blade(1) = 0
                bars() = 1; bar(0, *) = 1 1 1 2 3 4
                """);
        Script.run("bar: 0 of an ORDER that there is not", one + "bar(0, *) = 0 5 1 0 0 0; order(4, 0) = 1; bar(0, *) = 0 5 1 0 0 0");
        Script.run("bar: 0 of an ORDER that there is not, as it went", """
                stock(9, 2) = 0; order(1, 1) = 0; order(1, 1) = 1; order(1, 1) = 2; order(1, 1) = 3; bar(0, *) = 0 5 1 1 1 1
                noBars() = 5; stock(9, 2) = 0; order(1, 1) = 0; bar(0, *) = 0 8 1 0 0 0
                """);
        Script.run("bar: NONE: there is none such: no bars", "bar(0, *) = NONE NONE NONE NONE NONE NONE; bar(-1, 0) = NONE; bar(MAX, 5) = NONE");
        Script.refusedIn(one, "bar: NONE: there is none such", "bar(#, 0)", "-1 1 2 20 MIN MAX", "NONE");
        Script.refusedIn(one, "bar: NONE: there is none such", "bar(#, 5)", "-1 1 2 20 MIN MAX", "NONE");
        Script.refusedIn("stock(3, 2); order(4, 1)\n", "bar: NONE: it is SHORT", "bar(#, 0)", "-1 0 1 MIN MAX", "NONE");
        Script.refused("bar: OUTSIDE: what (0 to 5)", "bar(0, #)", "-1 6 7 MIN MAX", "OUTSIDE");
        Script.refusedIn(one, "bar: OUTSIDE: what (0 to 5)", "bar(0, #)", "-1 6 7 MIN MAX", "OUTSIDE");
    }

    private static void afterChanges() {
        Script.run("THE LIST is that of the STOCKS, ORDERS and BLADE as they are", """
                price() = 0; order(4, 2) = 0; price() = NONE; stock(8, 5) = 0; price() = 5; blade(1) = 0; price() = 10; bars() = 2
                stock(9, 6) = 1; price() = 6; bar(0, 0) = 1; order(9, 1) = 1; price() = 12; demand(1, 2) = 1; price() = 18
                blade(0) = 1; price() = 17; bar(0, 0) = 0; noBars() = 4; price() = 0; bars() = 0
                """);
        Script.run("asking for it changes nothing", Script.USUAL + """
                price() = 7; bars() = 2; bar(0, *) = 0 0 2 0 0 0; price() = 7; bars() = 2; bar(0, *) = 0 0 2 0 0 0; bar(1, *) = 1 3 0 1 0 0
                """);
    }
}
