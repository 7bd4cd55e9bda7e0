/** The boundaries of promises 7 to 30: the market, the traders, the orders, demand and supply. */
final class EdgesOfState {
    private static final String NOBODY = "market 60 50 0 time;";
    private static final String EIGHT = "market 60 50 0 time;trader a 1 2;trader b 1 2;trader c 1 2;trader d 1 2;"
        + "trader e 1 2;trader f 1 2;trader g 1 2;trader h 77 77;";
    private static final int[] NO_ORDERS = {-1, 0, 1, 2, 4, 9, 20, 21, 256 + 3, 65536 + 3, Edges.MIN, Edges.MIN + 3, Edges.MAX};

    private final Edges edges;
    private final Check check;

    EdgesOfState(Edges edges) {
        this.edges = edges;
        check = edges.check;
    }

    void run() {
        minutesAndPrices();
        minutesToCry();
        counts();
        noSuchTrader();
        whatATraderHas();
        noSuchIndex();
        noSuchOrder();
        minutesLeft();
        ranks();
        prices();
        bestLimits();
    }

    private void minutesAndPrices() {
        check.promise(7, "0 at first");
        check.same("minute", Check.loaded(NOBODY).minute(), 0);
        check.same("behind minutes", Check.loaded(NOBODY + "pass 1;").minute(), 1);
        check.same("of a new object", new NoonCry().minute(), 5);
        NoonCry noon = Check.loaded(NOBODY + "pass 300;pass 300;");
        for (int minute = 900; minute <= 66000; minute += 300) {
            noon.pass(300);
            check.same("minute", noon.minute(), minute);
        }
        check.promise(8, "1 to 999");
        check.same("1", Check.loaded("market 60 1 0 time;").lastPrice(), 1);
        check.same("999", Check.loaded("market 60 999 0 time;").lastPrice(), 999);
        check.same("traded at 1", Check.loaded(Edges.RICH + "bid a 1 1 1;offer a 1 1 1;cry;").lastPrice(), 1);
        check.same("traded at 999", Check.loaded(Edges.RICH + "bid a 999 1 1;offer a 999 1 1;cry;").lastPrice(), 999);
        check.promise(9, "0 to 999, 0 means that there is none");
        check.same("0", Check.loaded(NOBODY).band(), 0);
        check.same("999", Check.loaded("market 60 1 999 time;").band(), 999);
        check.same("a stopped cry leaves it", Check.loaded("market 60 1 9 time;trader a 9999 9;bid a 999 1 1;offer a 999 1 1;cry;").band(), 9);
        check.promise(10, "0 or 1");
        check.same("0", Check.loaded("market 60 1 0 time;").rule(), 0);
        check.same("1", Check.loaded("market 60 1 0 share;").rule(), 1);
    }

    private void minutesToCry() {
        check.promise(11, "1 to the period");
        int[][] due = {{60, 0, 60}, {60, 1, 59}, {60, 58, 2}, {60, 59, 1}, {60, 60, 60}, {60, 61, 59}, {60, 300, 60}, {60, 299, 1},
            {1, 0, 1}, {1, 1, 1}, {1, 300, 1}, {2, 0, 2}, {2, 1, 1}, {2, 2, 2}, {7, 6, 1}, {7, 7, 7}, {7, 8, 6}};
        for (int[] row : due) {
            String text = "market " + row[0] + " 50 0 time;pass " + row[1] + ";";
            check.same(text, Check.loaded(text).minutesToCry(), row[2]);
            check.same("then a period of 9", Check.loaded(text + "period 9;").minutesToCry(), 9 - row[1] % 9);
        }
        check.same("a cry at once leaves it", Check.loaded("market 9 50 0 time;pass 4;cry;").minutesToCry(), 5);
    }

    private void counts() {
        check.promise(12, "0 to 8");
        check.same("none", Check.loaded(NOBODY).traderCount(), 0);
        check.same("one", Check.loaded(NOBODY + "trader a 0 0;").traderCount(), 1);
        check.same("eight", Check.loaded(EIGHT).traderCount(), 8);
        check.promise(17, "0 to 20");
        check.same("none", Check.loaded(NOBODY).orderCount(), 0);
        check.same("one", Check.loaded(Edges.RICH + "bid a 1 1 0;").orderCount(), 1);
        check.same("20", Check.loaded(Edges.RICH + "bid a 1 1 0;".repeat(20)).orderCount(), 20);
        check.same("late ones are not counted", Check.loaded(Edges.RICH + "bid a 1 1 0;bid a 1 1 1;pass 1;").orderCount(), 1);
    }

    private void trader(int promise, String name, Edges.CallWith call, int ofTheFirst, int ofTheLast, int ofTheEighth) {
        check.promise(promise, name + " throws IndexOutOfBoundsException if there is no such trader");
        edges.inside(name, 0, 3, call, ofTheFirst, ofTheLast);
        edges.outside(name, Edges.INDEX, 0, 3, call);
        edges.refused(name + " of nobody", Edges.INDEX, () -> Check.loaded(NOBODY), noon -> call.on(noon, 0));
        check.sameText(name + " of the eighth", Check.answer(() -> call.on(Check.loaded(EIGHT), 7)), "" + ofTheEighth);
        edges.refused(name + " of a ninth", Edges.INDEX, () -> Check.loaded(EIGHT), noon -> call.on(noon, 8));
    }

    private void noSuchTrader() {
        trader(13, "coinsOf", NoonCry::coinsOf, 1584, 1420, 77);
        trader(14, "goodsOf", NoonCry::goodsOf, 18, 15, 77);
        trader(15, "freeCoins", NoonCry::freeCoins, 1584, 1170, 77);
        trader(16, "freeGoods", NoonCry::freeGoods, 15, 5, 77);
        trader(45, "coinsAfterCry", NoonCry::coinsAfterCry, 1584 + 3 * 52, 1420 + 52, 77);
    }

    private void whatATraderHas() {
        NoonCry none = Check.loaded(NOBODY + "trader a 0 0;");
        NoonCry most = Check.loaded(Edges.RICH);
        NoonCry held = Check.loaded("market 60 50 0 time;trader a 9 9;bid a 9 1 9;offer a 10 9 9;");
        check.promise(13, "from 0 on, the held ones too");
        check.same("0", none.coinsOf(0), 0);
        check.same("999999", most.coinsOf(0), 999999);
        check.same("all held", held.coinsOf(0), 9);
        check.promise(14, "from 0 on, the held ones too");
        check.same("0", none.goodsOf(0), 0);
        check.same("9999", most.goodsOf(0), 9999);
        check.same("all held", held.goodsOf(0), 9);
        check.promise(15, "from 0 on, without the held ones");
        check.same("0", none.freeCoins(0), 0);
        check.same("999999", most.freeCoins(0), 999999);
        check.same("all held", held.freeCoins(0), 0);
        check.promise(16, "from 0 on, without the held ones");
        check.same("0", none.freeGoods(0), 0);
        check.same("9999", most.freeGoods(0), 9999);
        check.same("all held", held.freeGoods(0), 0);
    }

    private void noSuchIndex() {
        check.promise(18, "0 for the order with the smallest number, throws IndexOutOfBoundsException if there is no such order");
        edges.inside("orderAt", 0, 4, NoonCry::orderAt, 3, 8);
        edges.outside("orderAt", Edges.INDEX, 0, 4, NoonCry::orderAt);
        edges.refused("orderAt of none", Edges.INDEX, () -> Check.loaded(Edges.RICH), noon -> noon.orderAt(0));
        NoonCry full = Check.loaded(Edges.RICH + "bid a 1 1 9;".repeat(20));
        for (int index = 0; index < 20; index++) {
            check.same("orderAt", full.orderAt(index), index);
        }
        check.fails("orderAt 20", Edges.INDEX, () -> full.orderAt(20));
        full.withdraw(0);
        check.same("the first one", full.orderAt(0), 1);
        check.same("the last one", full.orderAt(18), 19);
        check.fails("orderAt 19", Edges.INDEX, () -> full.orderAt(19));
        full.place(0, 0, 999, 1, 9);
        check.same("a better order stands behind", full.orderAt(19), 20);
    }

    private void order(int promise, String name, Edges.CallWith call, int ofTheFirst, int ofTheLast) {
        check.promise(promise, name + " throws NoSuchElementException if there is no such order");
        edges.inside(name, 3, 8, call, ofTheFirst, ofTheLast);
        for (int number : NO_ORDERS) {
            edges.refused(name + " of " + number, Edges.ELEMENT, noon -> call.on(noon, number));
        }
        edges.refused(name + " of none", Edges.ELEMENT, () -> Check.loaded(Edges.RICH), noon -> call.on(noon, 0));
        String full = Edges.RICH + "bid a 1 1 0;".repeat(20);
        check.isFalse(name + " of the 20th", Check.answer(() -> call.on(Check.loaded(full), 19)).startsWith("throws"));
        check.fails(name + " of a 21st", Edges.ELEMENT, () -> call.on(Check.loaded(full), 20));
        check.fails(name + " of a late one", Edges.ELEMENT, () -> call.on(Check.loaded(full + "pass 1;"), 19));
        check.fails(name + " of a cleared one", Edges.ELEMENT, () -> call.on(Check.loaded(full + "clear a;"), 0));
        check.fails(name + " of a filled one", Edges.ELEMENT, () -> call.on(Check.loaded(Edges.RICH + "bid a 1 1 0;offer a 1 1 0;cry;"), 1));
    }

    private void noSuchOrder() {
        order(19, "traderOf", NoonCry::traderOf, 3, 0);
        order(20, "sideOf", NoonCry::sideOf, 1, 1);
        order(21, "limitOf", NoonCry::limitOf, 52, 51);
        order(22, "quantityOf", NoonCry::quantityOf, 5, 3);
        order(23, "minutesLeft", NoonCry::minutesLeft, 5, 3);
        order(24, "rankOf", NoonCry::rankOf, 1, 0);
        order(34, "fillOf", NoonCry::fillOf, 1, 3);
        order(37, "priceWithout", NoonCry::priceWithout, 53, 52);
        order(38, "volumeWithout", NoonCry::volumeWithout, 4, 4);
        order(44, "worthOf", NoonCry::worthOf, 52, 156);
        order(55, "withdraw", NoonCry::withdraw, 5, 3);
        NoonCry noon = Check.loaded(EIGHT + "offer h 1 1 9;bid a 1 1 9;offer h 999 76 9;");
        check.promise(19, "the first and the last trader");
        check.same("traderOf", noon.traderOf(0), 7);
        check.same("traderOf", noon.traderOf(1), 0);
        check.promise(20, "0 a bid, 1 an offer");
        check.same("sideOf", noon.sideOf(0), 1);
        check.same("sideOf", noon.sideOf(1), 0);
        check.promise(21, "1 to 999");
        check.same("limitOf", noon.limitOf(0), 1);
        check.same("limitOf", noon.limitOf(2), 999);
        check.promise(22, "what is left of it, at least 1");
        check.same("quantityOf", Check.loaded(Edges.RICH + "bid a 9 99 9;offer a 9 98 9;cry;").quantityOf(0), 1);
        check.same("quantityOf", Check.loaded(Edges.RICH + "bid a 9 99 9;offer a 9 1 9;cry;").quantityOf(0), 98);
        check.same("quantityOf", Check.loaded(Edges.RICH + "bid a 9 99 9;offer a 10 1 9;cry;").quantityOf(0), 99);
    }

    private void minutesLeft() {
        check.promise(23, "it goes when the minute number is greater than its last minute");
        NoonCry noon = Check.loaded(Edges.RICH + "pass 5;bid a 9 1 0;bid a 9 1 1;bid a 9 1 999;");
        int[] due = {1, 2, 1000};
        for (int order = 0; order < 3; order++) {
            check.same("minutesLeft", noon.minutesLeft(order), due[order]);
        }
        noon.pass(1);
        check.fails("behind one minute", Edges.ELEMENT, () -> noon.minutesLeft(0));
        check.same("minutesLeft", noon.minutesLeft(1), 1);
        check.same("minutesLeft", noon.minutesLeft(2), 999);
        noon.pass(1);
        check.fails("behind two minutes", Edges.ELEMENT, () -> noon.minutesLeft(1));
        noon.pass(300);
        noon.pass(300);
        noon.pass(300);
        noon.pass(97);
        check.same("minutesLeft", noon.minutesLeft(2), 1);
        noon.pass(1);
        check.fails("behind 1000 minutes", Edges.ELEMENT, () -> noon.minutesLeft(2));
    }

    private void ranks() {
        check.promise(24, "the number of orders of its side that are ahead of it");
        NoonCry same = Check.loaded(Edges.RICH + "bid a 9 1 9;".repeat(20));
        NoonCry bids = Check.loaded(Edges.RICH);
        NoonCry offers = Check.loaded(Edges.RICH);
        for (int order = 0; order < 20; order++) {
            check.same("20 of one limit", same.rankOf(order), order);
            bids.place(0, 0, 10 + order, 1, 9);
            offers.place(0, 1, 10 + order, 1, 9);
        }
        for (int order = 0; order < 20; order++) {
            check.same("bids by descending limits", bids.rankOf(order), 19 - order);
            check.same("offers by ascending limits", offers.rankOf(order), order);
        }
        NoonCry two = Check.loaded(Edges.RICH + "bid a 1 1 9;offer a 999 1 9;bid a 999 1 9;offer a 1 1 9;");
        int[] due = {1, 1, 0, 0};
        for (int order = 0; order < 4; order++) {
            check.same("the other side does not count", two.rankOf(order), due[order]);
        }
    }

    private void price(int promise, String name, Edges.CallWith call, int ofOne, int ofTheMost) {
        check.promise(promise, name + ": 1 to 999, throws IllegalArgumentException if price is out of range");
        edges.inside(name, 1, 999, call, ofOne, ofTheMost);
        edges.outside(name, Edges.ARGUMENT, 1, 999, call);
        NoonCry none = Check.loaded(NOBODY);
        check.sameText(name + " without orders", Check.answer(() -> call.on(none, 1) + " " + call.on(none, 999)), "0 0");
    }

    private void prices() {
        price(25, "demandAt", NoonCry::demandAt, 9, 0);
        price(26, "supplyAt", NoonCry::supplyAt, 0, 13);
        price(27, "volumeAt", NoonCry::volumeAt, 0, 0);
        price(28, "excessAt", NoonCry::excessAt, 9, -13);
        NoonCry noon = Check.loaded(Edges.RICH + "bid a 999 3 9;bid a 1 4 9;offer a 1 5 9;offer a 999 6 9;");
        check.promise(25, "a limit of 1 and of 999");
        check.same("1", noon.demandAt(1), 7);
        check.same("2", noon.demandAt(2), 3);
        check.same("999", noon.demandAt(999), 3);
        check.promise(26, "a limit of 1 and of 999");
        check.same("1", noon.supplyAt(1), 5);
        check.same("998", noon.supplyAt(998), 5);
        check.same("999", noon.supplyAt(999), 11);
        check.promise(27, "the smaller one of both");
        check.same("less supply", noon.volumeAt(1), 5);
        check.same("less demand", noon.volumeAt(2), 3);
        check.same("as much", Check.loaded(Edges.RICH + "bid a 9 7 9;offer a 9 7 9;").volumeAt(9), 7);
        check.promise(28, "the demand minus the supply");
        check.same("more demand", noon.excessAt(1), 2);
        check.same("less demand", noon.excessAt(2), -2);
        check.same("as much", Check.loaded(Edges.RICH + "bid a 9 7 9;offer a 9 7 9;").excessAt(9), 0);
        check.same("the greatest", Check.loaded(Edges.RICH + "bid a 1 99 9;".repeat(20)).excessAt(1), 1980);
        check.same("the smallest", Check.loaded(Edges.RICH + "offer a 1 99 9;".repeat(20)).excessAt(1), -1980);
    }

    private void bestLimits() {
        check.promise(29, "-1 if there is no bid");
        check.same("no order", Check.loaded(NOBODY).bestBid(), -1);
        check.same("20 offers", Check.loaded(Edges.RICH + "offer a 1 1 9;".repeat(20)).bestBid(), -1);
        check.same("1", Check.loaded(Edges.RICH + "bid a 1 1 9;offer a 999 1 9;").bestBid(), 1);
        check.same("999", Check.loaded(Edges.RICH + "bid a 999 1 9;offer a 1 1 9;").bestBid(), 999);
        check.same("the last one", Check.loaded(Edges.RICH + "bid a 998 1 9;".repeat(19) + "bid a 999 1 9;").bestBid(), 999);
        check.same("the first one", Check.loaded(Edges.RICH + "bid a 999 1 9;bid a 998 9 9;").bestBid(), 999);
        check.promise(30, "-1 if there is no offer");
        check.same("no order", Check.loaded(NOBODY).bestOffer(), -1);
        check.same("20 bids", Check.loaded(Edges.RICH + "bid a 1 1 9;".repeat(20)).bestOffer(), -1);
        check.same("1", Check.loaded(Edges.RICH + "bid a 999 1 9;offer a 1 1 9;").bestOffer(), 1);
        check.same("999", Check.loaded(Edges.RICH + "bid a 1 1 9;offer a 999 1 9;").bestOffer(), 999);
        check.same("the last one", Check.loaded(Edges.RICH + "offer a 2 1 9;".repeat(19) + "offer a 1 1 9;").bestOffer(), 1);
        check.same("the first one", Check.loaded(Edges.RICH + "offer a 1 1 9;offer a 2 9 9;").bestOffer(), 1);
    }
}
