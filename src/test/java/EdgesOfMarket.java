/** The boundaries of the sections Traders, Orders, The price, Fills, The cry and A minute. */
final class EdgesOfMarket {
    private final Edges edges;
    private final Check check;

    EdgesOfMarket(Edges edges) {
        this.edges = edges;
        check = edges.check;
    }

    void run() {
        eightTraders();
        moreThanATextGives();
        twentyOrders();
        numbersAreNotGivenTwice();
        whatABidHolds();
        whatAnOfferHolds();
        whatGoesBecomesFree();
        reasonsOfRefusal();
        demandAndSupply();
        greatestVolume();
        smallestSurplus();
        nearestToTheLastPrice();
        noPrice();
        ordersThatAreFilled();
        theOrderOfFills();
        untilTheVolumeIsReached();
        sharesAreRoundedDown();
        whatIsLeftOfShares();
        theLastLimitAlone();
        withinTheBand();
        beyondTheBand();
        aStoppedCry();
        aCryWithTrades();
        aCryWithoutAPrice();
        lastMinutes();
        thePeriod();
        partsOfAMinute();
    }

    /** A market with one rich trader, its last price, band and rule, and orders. */
    static NoonCry market(int price, int band, String rule, String orders) {
        return Check.loaded("market 60 " + price + " " + band + " " + rule + ";trader a 999999 9999;" + orders);
    }

    private void eightTraders() {
        check.sentence("Traders: at most 8, numbered from 0 in the order of the setup text");
        StringBuilder text = new StringBuilder("market 5 50 0 time;");
        for (int trader = 0; trader < 8; trader++) {
            NoonCry noon = Check.loaded(text.append("trader ").append((char) ('h' - trader)).append(" 1").append(trader)
                .append(" 2").append(trader).append(";").toString());
            check.same("traders", noon.traderCount(), trader + 1);
            for (int each = 0; each <= trader; each++) {
                check.same("coins", noon.coinsOf(each), 10 + each);
                check.same("goods", noon.goodsOf(each), 20 + each);
            }
            int next = trader + 1;
            check.fails("the next one", Edges.INDEX, () -> noon.coinsOf(next));
        }
        edges.fault(text.toString(), "trader i 1 1;", 5, 0);
        check.sentence("Traders: coins from 0, goods from 0");
        NoonCry none = Check.loaded("market 5 50 0 time;trader a 0 0;");
        check.fails("no coins", Edges.STATE, () -> none.place(0, 0, 1, 1, 1));
        check.fails("no goods", Edges.STATE, () -> none.place(0, 1, 1, 1, 1));
    }

    private void moreThanATextGives() {
        check.sentence("Traders: by trades and give statements a trader can have more than these numbers");
        String two = "market 5 50 0 time;trader a 999999 9999;trader b 999999 9999;";
        NoonCry noon = Check.loaded(two + "give a b 9999;bid a 999 99 9;offer b 999 99 9;cry;");
        check.same("coins", noon.coinsOf(1), 999999 + 98901);
        check.same("goods", noon.goodsOf(1), 19998 - 99);
        check.same("free coins", noon.freeCoins(1), 999999 + 98901);
        check.same("free goods", noon.freeGoods(1), 19998 - 99);
        check.same("goods by trades", noon.goodsOf(0), 99);
        NoonCry goods = Check.loaded(two + "bid a 1 99 9;offer b 1 99 9;cry;");
        check.same("goods", goods.goodsOf(0), 9999 + 99);
        check.same("coins by the offer", goods.coinsOf(1), 999999 + 99);
        check.same("what is beyond can be held", refusalBehindBids(noon, 11), 0);
        check.same("more coins are free than 999999", noon.freeCoins(1), 10989);
        check.same("to the last coin", noon.orderRefusal(1, 0, 999, 11), 0);
        check.same("one limit more", noon.orderRefusal(1, 0, 999, 12), 2);
    }

    private static int refusalBehindBids(NoonCry noon, int bids) {
        for (int bid = 0; bid < bids; bid++) {
            if (noon.orderRefusal(1, 0, 999, 99) != 0) {
                return noon.orderRefusal(1, 0, 999, 99);
            }
            noon.place(1, 0, 999, 99, 9);
        }
        return 0;
    }

    private void twentyOrders() {
        check.sentence("Orders: at most 20");
        NoonCry noon = Check.loaded(Edges.RICH);
        for (int order = 0; order < 20; order++) {
            check.same("refusal", noon.orderRefusal(0, order % 2, 9, 9), 0);
            check.same("place", noon.place(0, order % 2, 9, 9, 9), order);
            check.same("orders", noon.orderCount(), order + 1);
        }
        check.same("refusal", noon.orderRefusal(0, 0, 9, 9), 1);
        check.same("refusal", noon.orderRefusal(0, 1, 9, 9), 1);
        check.fails("a bid", Edges.STATE, () -> noon.place(0, 0, 9, 9, 9));
        check.fails("an offer", Edges.STATE, () -> noon.place(0, 1, 9, 9, 9));
        check.same("orders", noon.orderCount(), 20);
        check.same("the last number", noon.orderAt(19), 19);
        noon.withdraw(7);
        check.same("the 20th again", noon.place(0, 0, 9, 9, 9), 20);
        check.fails("the 21st again", Edges.STATE, () -> noon.place(0, 1, 9, 9, 9));
        noon.cry();
        check.same("all are filled", noon.orderCount(), 2);
        check.same("the rest", noon.quantityOf(18), 9);
        check.same("the rest", noon.quantityOf(20), 9);
        check.same("free again", noon.place(0, 0, 9, 9, 9), 21);
    }

    private void numbersAreNotGivenTwice() {
        check.sentence("Orders: numbers from 0 in the order in which they came, no number is given twice");
        NoonCry noon = Check.loaded(Edges.RICH);
        check.same("the first", noon.place(0, 0, 9, 9, 0), 0);
        noon.withdraw(0);
        check.same("behind a withdraw", noon.place(0, 0, 9, 9, 0), 1);
        noon.pass(1);
        check.same("behind a late order", noon.place(0, 0, 9, 9, 0), 2);
        noon.place(0, 1, 9, 9, 0);
        noon.cry();
        check.same("none is left", noon.orderCount(), 0);
        check.same("behind filled ones", noon.place(0, 0, 9, 9, 0), 4);
        NoonCry refused = Check.loaded(Edges.HEAD);
        check.fails("a refused order", Edges.STATE, () -> refused.place(1, 1, 9, 1, 9));
        check.same("it gets no number", refused.place(1, 0, 9, 1, 9), 0);
        NoonCry text = Check.loaded(Edges.HEAD + "bid a 1 1 0;bid a 1 1 9;pass 1;clear a;bid a 1 1 9;withdraw 2;offer a 1 1 9;");
        check.same("in a text", text.orderAt(0), 3);
        check.same("behind the text", text.place(0, 0, 1, 1, 1), 4);
    }

    private void whatABidHolds() {
        check.sentence("Orders: a bid holds limit * quantity coins");
        int[][] bids = {{1, 1}, {1, 99}, {999, 1}, {999, 99}, {500, 50}};
        for (int[] bid : bids) {
            int held = bid[0] * bid[1];
            NoonCry noon = Check.loaded("market 5 50 0 time;trader a " + held + " 0;");
            check.same("just enough", noon.orderRefusal(0, 0, bid[0], bid[1]), 0);
            noon.place(0, 0, bid[0], bid[1], 9);
            check.same("free", noon.freeCoins(0), 0);
            check.same("all", noon.coinsOf(0), held);
            check.same("no goods are held", noon.freeGoods(0), 0);
            check.fails("no coin more", Edges.STATE, () -> noon.place(0, 0, 1, 1, 9));
            NoonCry less = Check.loaded("market 5 50 0 time;trader a " + (held - 1) + " 9999;");
            check.same("one coin less", less.orderRefusal(0, 0, bid[0], bid[1]), 2);
            check.fails("one coin less", Edges.STATE, () -> less.place(0, 0, bid[0], bid[1], 9));
        }
    }

    private void whatAnOfferHolds() {
        check.sentence("Orders: an offer holds as many goods as its quantity");
        for (int quantity : new int[] {1, 2, 98, 99}) {
            NoonCry noon = Check.loaded("market 5 50 0 time;trader a 0 " + quantity + ";");
            check.same("just enough", noon.orderRefusal(0, 1, 999, quantity), 0);
            noon.place(0, 1, 999, quantity, 9);
            check.same("free", noon.freeGoods(0), 0);
            check.same("all", noon.goodsOf(0), quantity);
            check.same("no coins are held", noon.freeCoins(0), 0);
            check.fails("no piece more", Edges.STATE, () -> noon.place(0, 1, 1, 1, 9));
            NoonCry less = Check.loaded("market 5 50 0 time;trader a 999999 " + (quantity - 1) + ";");
            check.same("one piece less", less.orderRefusal(0, 1, 1, quantity), 3);
            check.fails("one piece less", Edges.STATE, () -> less.place(0, 1, 1, quantity, 9));
        }
    }

    private static String free(NoonCry noon) {
        return noon.freeCoins(0) + " " + noon.freeGoods(0);
    }

    private void whatGoesBecomesFree() {
        check.sentence("Orders: when an order goes, what it holds becomes free");
        String text = "market 5 50 0 time;trader a 100 9;trader b 50 9;bid a 10 5 0;offer a 60 4 1;";
        NoonCry noon = Check.loaded(text);
        check.sameText("held", free(noon), "50 5");
        noon.withdraw(0);
        check.sameText("withdrawn", free(noon), "100 5");
        noon.undo();
        noon.pass(1);
        check.sameText("late", free(noon), "100 5");
        noon.pass(1);
        check.sameText("late", free(noon), "100 9");
        check.sameText("cleared", free(Check.loaded(text + "clear a;")), "100 9");
        check.sameText("cleared of another", free(Check.loaded(text + "clear b;")), "50 5");
        check.sameText("amended", free(Check.loaded(text + "amend 0 1;amend 1 1;")), "90 8");
        noon = Check.loaded(text + "offer b 4 3 9;cry;");
        check.same("the price", noon.lastPrice(), 10);
        check.sameText("filled in part", free(noon), "50 8");
        check.same("all coins", noon.coinsOf(0), 70);
        noon = Check.loaded(text + "offer b 4 5 9;cry;");
        check.sameText("filled", free(noon), "50 10");
    }

    private void reasonsOfRefusal() {
        check.sentence("Orders: refused for the first of these reasons that applies");
        NoonCry noon = Check.loaded("market 5 50 0 time;trader a 19 19;trader b 0 0;" + "bid a 1 1 9;".repeat(19));
        check.same("the 20th bid without coins", noon.orderRefusal(0, 0, 1, 1), 2);
        check.same("the 20th bid without goods", noon.orderRefusal(1, 0, 1, 1), 2);
        check.same("the 20th offer without goods", noon.orderRefusal(1, 1, 1, 1), 3);
        check.same("an offer without coins", noon.orderRefusal(0, 1, 999, 19), 0);
        noon.place(0, 1, 9, 1, 9);
        check.same("the 21st bid without coins", noon.orderRefusal(1, 0, 1, 1), 1);
        check.same("the 21st offer without goods", noon.orderRefusal(1, 1, 1, 1), 1);
        check.same("the 21st offer with goods", noon.orderRefusal(0, 1, 1, 1), 1);
        NoonCry coins = Check.loaded("market 5 50 0 time;trader a 9 0;");
        check.same("a bid without goods", coins.orderRefusal(0, 0, 9, 1), 0);
    }

    private void demandAndSupply() {
        check.sentence("The price: demand of bids whose limit is at least, supply of offers whose limit is at most the price");
        NoonCry noon = market(50, 0, "time", "bid a 40 3 9;bid a 60 99 9;bid a 999 1 9;offer a 40 5 9;offer a 60 98 9;offer a 1 2 9;offer a 999 7 9;");
        int[][] due = {{1, 103, 2}, {39, 103, 2}, {40, 103, 7}, {41, 100, 7}, {59, 100, 7}, {60, 100, 105}, {61, 1, 105}, {998, 1, 105}, {999, 1, 112}};
        for (int[] row : due) {
            check.same("demand at " + row[0], noon.demandAt(row[0]), row[1]);
            check.same("supply at " + row[0], noon.supplyAt(row[0]), row[2]);
            check.same("volume at " + row[0], noon.volumeAt(row[0]), Math.min(row[1], row[2]));
            check.same("excess at " + row[0], noon.excessAt(row[0]), row[1] - row[2]);
        }
        NoonCry full = market(50, 0, "time", "bid a 1 99 9;".repeat(20));
        check.same("demand of 20 bids", full.demandAt(1), 1980);
        check.same("behind their limit", full.demandAt(2), 0);
        full = market(50, 0, "time", "offer a 999 99 9;".repeat(20));
        check.same("supply of 20 offers", full.supplyAt(999), 1980);
        check.same("before their limit", full.supplyAt(998), 0);
    }

    private void price(String what, int last, String orders, int due) {
        check.same(what + " from " + last, market(last, 0, "time", orders).cryPrice(), due);
    }

    private void greatestVolume() {
        check.sentence("The price: the one with the greatest volume");
        // volume 6 and surplus 2 up to 50, volume 5 and surplus 1 from 51 on
        String more = "bid a 60 5 9;bid a 50 3 9;offer a 40 6 9;";
        price("one piece more beats surplus and nearness", 60, more, 50);
        price("one piece more beats surplus and nearness", 51, more, 50);
        price("within the greatest volume", 45, more, 45);
        // volume 6 and surplus 2 from 50 on, volume 5 and surplus 1 up to 49
        String above = "offer a 40 5 9;offer a 50 3 9;bid a 60 6 9;";
        price("one piece more beats surplus and nearness", 40, above, 50);
        price("one piece more beats surplus and nearness", 49, above, 50);
        price("alone at 1", 999, "bid a 1 9 9;bid a 999 1 9;offer a 1 9 9;", 1);
        price("alone at 999", 1, "offer a 999 9 9;offer a 1 1 9;bid a 999 9 9;", 999);
    }

    private void smallestSurplus() {
        check.sentence("The price: among several, the one with the smallest surplus");
        // volume 5; surplus 2 up to 50, where there is more demand, and 1 from 51 on, where there is more supply
        String above = "bid a 60 5 9;bid a 50 2 9;offer a 40 5 9;offer a 51 1 9;";
        for (int last : new int[] {1, 40, 50, 51}) {
            price("less supply too much than demand", last, above, 51);
        }
        price("less supply too much than demand", 61, above, 60);
        String below = "bid a 60 5 9;bid a 50 1 9;offer a 40 5 9;offer a 51 2 9;";
        for (int last : new int[] {50, 51, 60, 999}) {
            price("less demand too much than supply", last, below, 50);
        }
        price("less demand too much than supply", 39, below, 40);
        String alone = "bid a 60 5 9;bid a 49 2 9;offer a 40 5 9;offer a 51 2 9;";
        for (int last : new int[] {1, 49, 50, 51, 999}) {
            price("no surplus at 50 alone", last, alone, 50);
        }
        String even = "bid a 60 5 9;bid a 50 2 9;offer a 40 5 9;offer a 51 2 9;";
        price("2 on both sides", 50, even, 50);
        price("2 on both sides", 51, even, 51);
    }

    private void nearestToTheLastPrice() {
        check.sentence("The price: among several, the one nearest to the last price");
        int[][] due = {{1, 40}, {39, 40}, {40, 40}, {41, 41}, {50, 50}, {59, 59}, {60, 60}, {61, 60}, {999, 60}};
        for (int[] row : due) {
            price("40 to 60", row[0], "bid a 60 5 9;offer a 40 5 9;", row[1]);
        }
        for (int last : new int[] {1, 2, 500, 998, 999}) {
            price("1 to 999", last, "bid a 999 5 9;offer a 1 5 9;", last);
        }
        String between = "bid a 60 4 9;bid a 45 2 9;offer a 40 4 9;offer a 55 2 9;";
        int[][] inner = {{1, 46}, {45, 46}, {46, 46}, {47, 47}, {53, 53}, {54, 54}, {55, 54}, {999, 54}};
        for (int[] row : inner) {
            price("46 to 54, next to limits", row[0], between, row[1]);
        }
    }

    private void noPrice() {
        check.sentence("The price: if the greatest volume is 0, there is no price");
        String[] none = {"", "bid a 999 99 9;", "offer a 1 99 9;", "bid a 49 9 9;offer a 50 9 9;", "bid a 1 9 9;offer a 2 9 9;",
            "bid a 998 9 9;offer a 999 9 9;"};
        for (String orders : none) {
            NoonCry noon = market(50, 1, "share", orders);
            check.same("price of " + orders, noon.cryPrice(), -1);
            check.same("volume of " + orders, noon.cryVolume(), 0);
            check.isFalse("stop of " + orders, noon.wouldStop());
        }
        String[] some = {"bid a 50 1 9;offer a 50 1 9;", "bid a 50 1 9;offer a 49 1 9;", "bid a 1 1 9;offer a 1 1 9;", "bid a 999 1 9;offer a 999 1 9;"};
        int[] prices = {50, 50, 1, 999};
        for (int each = 0; each < some.length; each++) {
            NoonCry noon = market(50, 0, "share", some[each]);
            check.same("price of " + some[each], noon.cryPrice(), prices[each]);
            check.same("volume of " + some[each], noon.cryVolume(), 1);
        }
    }

    private void fills(String what, String rule, String orders, int... due) {
        NoonCry noon = market(50, 0, rule, orders);
        for (int order = 0; order < due.length; order++) {
            check.same(what + " by " + rule + ", fill of " + order, noon.fillOf(order), due[order]);
        }
    }

    private void ordersThatAreFilled() {
        check.sentence("Fills: the bids whose limit is at least the price, the offers whose limit is at most the price");
        for (String rule : new String[] {"time", "share"}) {
            fills("bids of 50 and 49", rule, "bid a 49 9 9;bid a 50 9 9;offer a 50 9 9;", 0, 9, 9);
            fills("offers of 50 and 51", rule, "offer a 51 9 9;offer a 50 9 9;bid a 50 9 9;", 0, 9, 9);
            fills("there is too little for all", rule, "bid a 50 2 9;bid a 49 9 9;offer a 50 9 9;", 2, 0, 2);
            fills("no price", rule, "bid a 49 9 9;offer a 50 9 9;", 0, 0);
        }
    }

    private void theOrderOfFills() {
        check.sentence("Fills: bids by descending, offers by ascending limits, orders of the same limit by their numbers");
        String bids = "bid a 50 5 9;bid a 52 5 9;bid a 51 5 9;bid a 52 5 9;";
        fills("6 bids", "time", bids + "offer a 50 6 9;", 0, 5, 0, 1, 6);
        fills("11 bids", "time", bids + "offer a 50 11 9;", 0, 5, 1, 5, 11);
        fills("16 bids", "time", bids + "offer a 50 16 9;", 1, 5, 5, 5, 16);
        String offers = "offer a 50 5 9;offer a 48 5 9;offer a 49 5 9;offer a 48 5 9;";
        fills("6 offers", "time", offers + "bid a 50 6 9;", 0, 5, 0, 1, 6);
        fills("11 offers", "time", offers + "bid a 50 11 9;", 0, 5, 1, 5, 11);
        fills("16 offers", "time", offers + "bid a 50 16 9;", 1, 5, 5, 5, 16);
        fills("the same limit", "time", "bid a 50 1 9;bid a 50 1 9;bid a 50 1 9;offer a 50 2 9;", 1, 1, 0, 2);
        fills("1 and 999", "time", "bid a 999 5 9;bid a 1 5 9;offer a 1 7 9;", 5, 2, 7);
    }

    private void untilTheVolumeIsReached() {
        check.sentence("Fills: each order in turn is filled as far as the volume goes");
        String bids = "bid a 50 4 9;bid a 50 4 9;bid a 50 4 9;offer a 50 ";
        int[][] due = {{1, 1, 0, 0}, {3, 3, 0, 0}, {4, 4, 0, 0}, {5, 4, 1, 0}, {7, 4, 3, 0}, {8, 4, 4, 0}, {9, 4, 4, 1}, {11, 4, 4, 3},
            {12, 4, 4, 4}, {13, 4, 4, 4}};
        for (int[] row : due) {
            fills("a volume of " + row[0], "time", bids + row[0] + " 9;", row[1], row[2], row[3], Math.min(row[0], 12));
        }
        fills("20 orders", "time", "bid a 50 1 9;".repeat(19) + "offer a 50 18 9;", 1, 1, 1, 1, 1, 1, 1, 1, 1, 1, 1, 1, 1, 1, 1, 1, 1, 1, 0, 18);
    }

    private void sharesAreRoundedDown() {
        check.sentence("Fills: each one of quantity q gets q * r / t, rounded down");
        fills("4 of 8", "share", "bid a 50 2 9;bid a 50 6 9;offer a 50 4 9;", 1, 3, 4);
        fills("99 of 198", "share", "bid a 50 99 9;bid a 50 99 9;offer a 50 99 9;", 50, 49, 99);
        fills("98 of 99", "share", "bid a 50 98 9;bid a 50 1 9;offer a 50 98 9;", 98, 0, 98);
        fills("1 of 100", "share", "bid a 50 1 9;bid a 50 99 9;offer a 50 1 9;", 1, 0, 1);
        fills("all of them", "share", "bid a 50 7 9;bid a 50 5 9;offer a 50 12 9;", 7, 5, 12);
        fills("more than all", "share", "bid a 50 7 9;bid a 50 5 9;offer a 50 13 9;", 7, 5, 12);
        fills("one alone", "share", "bid a 50 7 9;offer a 50 3 9;", 3, 3);
    }

    private void whatIsLeftOfShares() {
        check.sentence("Fills: what is still left is given by 1 each, by their numbers, to those that can take it");
        String three = "bid a 50 5 9;bid a 50 5 9;bid a 50 5 9;offer a 50 ";
        int[][] due = {{1, 1, 0, 0}, {2, 1, 1, 0}, {3, 1, 1, 1}, {4, 2, 1, 1}, {5, 2, 2, 1}, {6, 2, 2, 2}, {13, 5, 4, 4}, {14, 5, 5, 4}, {15, 5, 5, 5}};
        for (int[] row : due) {
            fills("left of " + row[0], "share", three + row[0] + " 9;", row[1], row[2], row[3], row[0]);
        }
        fills("small ones first", "share", "bid a 50 1 9;bid a 50 1 9;bid a 50 98 9;offer a 50 50 9;", 1, 0, 49, 50);
        fills("the great one first", "share", "bid a 50 98 9;bid a 50 1 9;bid a 50 1 9;offer a 50 50 9;", 50, 0, 0, 50);
        fills("20 orders", "share", "offer a 50 3 9;".repeat(19) + "bid a 50 20 9;", 2, 1, 1, 1, 1, 1, 1, 1, 1, 1, 1, 1, 1, 1, 1, 1, 1, 1, 1, 20);
        fills("19 left of 19", "share", "offer a 50 3 9;".repeat(19) + "bid a 50 18 9;", 1, 1, 1, 1, 1, 1, 1, 1, 1, 1, 1, 1, 1, 1, 1, 1, 1, 1, 0, 18);
    }

    private void theLastLimitAlone() {
        check.sentence("Fills: by the rule 1 only the orders of the last limit that is needed are shared");
        fills("both limits", "share", "bid a 52 3 9;bid a 51 4 9;bid a 51 4 9;offer a 50 7 9;", 3, 2, 2, 7);
        fills("just the first limit", "share", "bid a 52 3 9;bid a 52 4 9;bid a 51 4 9;offer a 50 7 9;", 3, 4, 0, 7);
        fills("one piece behind it", "share", "bid a 52 3 9;bid a 52 4 9;bid a 51 4 9;bid a 51 4 9;offer a 50 8 9;", 3, 4, 1, 0, 8);
        fills("one piece before it", "share", "bid a 52 4 9;bid a 52 4 9;bid a 51 4 9;offer a 50 7 9;", 4, 3, 0, 7);
        fills("offers", "share", "offer a 47 3 9;offer a 48 4 9;offer a 48 4 9;bid a 50 7 9;", 3, 2, 2, 7);
        fills("the same by time", "time", "offer a 47 3 9;offer a 48 4 9;offer a 48 4 9;bid a 50 7 9;", 3, 4, 0, 7);
        fills("numbers between", "share", "bid a 51 4 9;bid a 52 3 9;bid a 51 4 9;bid a 53 1 9;offer a 50 7 9;", 2, 3, 1, 1, 7);
    }

    private void band(int last, int band, int price, boolean stops) {
        NoonCry noon = market(last, band, "time", "bid a " + price + " 1 9;offer a " + price + " 1 9;");
        String what = "band " + band + ", " + last + " to " + price;
        check.same(what + ", wouldStop", noon.wouldStop() ? 1 : 0, stops ? 1 : 0);
        check.same(what + ", cry", noon.cry(), stops ? 0 : 1);
        check.same(what + ", last price", noon.lastPrice(), stops ? last + (price > last ? band : -band) : price);
        check.same(what + ", stopped", noon.stoppedCries(), stops ? 1 : 0);
        check.same(what + ", good", noon.goodCries(), stops ? 0 : 1);
    }

    private void withinTheBand() {
        check.sentence("The cry: the price differs from the last price by the band or less");
        int[][] within = {{50, 1, 50}, {50, 1, 51}, {50, 1, 49}, {50, 20, 70}, {50, 20, 30}, {50, 49, 1}, {1, 998, 999}, {999, 998, 1}, {1, 999, 999}, {999, 999, 1}};
        for (int[] row : within) {
            band(row[0], row[1], row[2], false);
        }
        check.sentence("The cry: a band of 0 means that there is none");
        band(1, 0, 999, false);
        band(999, 0, 1, false);
        band(50, 0, 51, false);
    }

    private void beyondTheBand() {
        check.sentence("The cry: the price differs from the last price by more than the band");
        int[][] beyond = {{50, 1, 52}, {50, 1, 48}, {50, 20, 71}, {50, 20, 29}, {50, 48, 1}, {1, 997, 999}, {999, 997, 1}, {1, 1, 999}};
        for (int[] row : beyond) {
            band(row[0], row[1], row[2], true);
        }
        NoonCry noon = market(50, 20, "time", "bid a 91 1 9;offer a 91 1 9;");
        int[] last = {70, 90, 91};
        for (int each = 0; each < 3; each++) {
            check.same("traded", noon.cry(), each < 2 ? 0 : 1);
            check.same("last price", noon.lastPrice(), last[each]);
        }
    }

    private void aStoppedCry() {
        check.sentence("The cry: a stopped cry leaves coins, goods and orders");
        String text = "market 5 50 3 time;trader a 999 20;trader b 999 20;bid a 60 2 9;offer b 58 5 9;";
        NoonCry noon = Check.loaded(text);
        check.same("cry", noon.cry(), 0);
        String due = Check.state(Check.loaded(text)).replaceFirst("0 50 3", "0 53 3").replace("|0 0 0 0 ", "|0 0 1 0 ");
        check.sameText("state", Check.state(noon), due);
        check.same("pass", Check.loaded(text).pass(5), 0);
    }

    private void aCryWithTrades() {
        check.sentence("The cry: each order with a fill trades at the price, and what was held beyond it becomes free");
        NoonCry noon = Check.loaded("market 5 50 0 time;trader a 600 0;trader b 0 7;trader c 0 4;bid a 60 10 9;offer b 50 7 9;offer c 55 2 9;");
        check.same("held", noon.freeCoins(0), 0);
        check.same("cry", noon.cry(), 9);
        check.same("price", noon.lastPrice(), 55);
        check.same("coins of the buyer", noon.coinsOf(0), 600 - 9 * 55);
        check.same("free", noon.freeCoins(0), 600 - 9 * 55 - 60);
        check.same("goods of the buyer", noon.goodsOf(0), 9);
        check.same("coins of a seller", noon.coinsOf(1), 7 * 55);
        check.same("coins of a seller", noon.coinsOf(2), 2 * 55);
        check.same("goods of a seller", noon.goodsOf(1), 0);
        check.same("goods of a seller", noon.goodsOf(2), 2);
        check.sentence("The cry: the quantity decreases by the fill, an order without a quantity goes");
        check.same("orders", noon.orderCount(), 1);
        check.same("one piece is left", noon.quantityOf(0), 1);
        check.fails("filled", Edges.ELEMENT, () -> noon.quantityOf(1));
        check.fails("filled", Edges.ELEMENT, () -> noon.quantityOf(2));
        check.same("late", noon.lateOrders(), 0);
    }

    private void aCryWithoutAPrice() {
        check.sentence("The cry: without a price nothing happens");
        String text = "market 1 50 1 time;trader a 999 20;bid a 10 2 9;offer a 90 5 9;";
        NoonCry noon = Check.loaded(text);
        check.same("cry", noon.cry(), 0);
        check.sameText("state", Check.state(noon), Check.state(Check.loaded(text)));
        NoonCry empty = Check.loaded("market 1 50 1 share;");
        check.same("cry", empty.cry(), 0);
        check.sameText("state", Check.state(empty), Check.state(Check.loaded("market 1 50 1 share;")));
        check.same("in a text", Check.loaded(text + "cry;").goodCries(), 0);
    }

    private void lastMinutes() {
        check.sentence("A minute: all orders whose last minute is less than the minute number go");
        for (int minutes : new int[] {0, 1, 2, 300, 998, 999}) {
            NoonCry noon = market(50, 0, "time", "pass 7;");
            noon.place(0, 0, 9, 9, minutes);
            int passed = 0;
            while (passed < minutes) {
                int more = Math.min(300, minutes - passed);
                noon.pass(more);
                passed += more;
            }
            check.same("in the last minute", noon.orderCount(), 1);
            check.same("left", noon.minutesLeft(0), 1);
            check.same("not late", noon.lateOrders(), 0);
            noon.pass(1);
            check.same("behind it", noon.orderCount(), 0);
            check.same("late", noon.lateOrders(), 1);
        }
        NoonCry full = market(50, 0, "time", "bid a 1 1 3;".repeat(20));
        full.pass(3);
        check.same("20 orders", full.orderCount(), 20);
        full.pass(1);
        check.same("no order", full.orderCount(), 0);
        check.same("late", full.lateOrders(), 20);
    }

    private static int goodCries(int period, int minutes) {
        String orders = "bid a 50 1 99;offer a 50 1 99;";
        NoonCry noon = Check.loaded("market " + period + " 50 0 time;trader a 999 99;" + orders.repeat(9));
        int cries = 0;
        for (int minute = 1; minute <= minutes; minute++) {
            cries += noon.pass(1) > 0 ? minute * 100 : 0;
        }
        return cries;
    }

    private void thePeriod() {
        check.sentence("A minute: if the minute number is divisible by the period, the cry comes");
        check.same("period 1", goodCries(1, 1), 100);
        check.same("period 2", goodCries(2, 1), 0);
        check.same("period 2", goodCries(2, 2), 200);
        check.same("period 7", goodCries(7, 6), 0);
        check.same("period 7", goodCries(7, 7), 700);
        check.same("period 59", goodCries(59, 58), 0);
        check.same("period 59", goodCries(59, 59), 5900);
        check.same("period 60", goodCries(60, 59), 0);
        check.same("period 60", goodCries(60, 60), 6000);
        String text = "market 9 50 0 time;trader a 999 99;bid a 50 1 99;offer a 50 1 99;";
        check.same("none in the minute 0", Check.loaded(text + "pass 0;").tradedPieces(), 0);
        check.same("a new period", Check.loaded(text + "pass 7;period 4;pass 1;").tradedPieces(), 1);
        check.same("a new period of the same minute", Check.loaded(text + "pass 8;period 4;").tradedPieces(), 0);
        NoonCry stopped = Check.loaded("market 7 1 1 time;trader a 99999 99;bid a 999 1 999;offer a 999 1 999;");
        stopped.pass(300);
        check.same("the cries of 300 minutes", stopped.stoppedCries(), 42);
        stopped.pass(1);
        check.same("the cries of 301 minutes", stopped.stoppedCries(), 43);
    }

    private void partsOfAMinute() {
        check.sentence("A minute: first the number, then the orders go, then the cry comes");
        String text = "market 3 50 0 time;trader a 999 99;bid a 50 9 ";
        NoonCry late = Check.loaded(text + "2;offer a 50 4 20;pass 2;");
        check.same("late in the minute of the cry", late.pass(1), 0);
        check.same("late", late.lateOrders(), 1);
        NoonCry timely = Check.loaded(text + "3;offer a 50 4 20;pass 2;");
        check.same("its last minute is that of the cry", timely.pass(1), 4);
        check.same("late", timely.lateOrders(), 0);
        check.same("the rest", timely.quantityOf(0), 5);
        timely.pass(1);
        check.same("late behind the cry", timely.lateOrders(), 1);
        NoonCry many = Check.loaded(text + "6;offer a 50 4 2;offer a 50 2 5;offer a 50 1 6;");
        check.same("two cries", many.pass(300), 3);
        check.same("one cry trades", many.goodCries(), 1);
        check.same("late", many.lateOrders(), 2);
        check.same("minute", many.minute(), 300);
    }
}
