/** The boundaries of promises 31 to 53: what the cry would do, the forecasts, and what is counted. */
final class EdgesOfCries {
    private static final String NOBODY = "market 60 50 0 time;";

    private final Edges edges;
    private final Check check;

    EdgesOfCries(Edges edges) {
        this.edges = edges;
        check = edges.check;
    }

    void run() {
        priceAndVolume();
        stops();
        fillsAndWorths();
        partialFills();
        lastLimits();
        without();
        formsOfOneMoreOrder();
        priceWith();
        fillWith();
        toBuyAndToSell();
        refusals();
        coinsAfterCry();
        aFullBook();
        ordersThatAreGone();
        fillsThatAreGone();
        countsOfCries();
        lateOrders();
        differences();
        tradedShare();
        meanPrice();
    }

    private static NoonCry rich(String orders) {
        return Check.loaded(Edges.RICH + orders);
    }

    private void priceAndVolume() {
        check.promise(31, "-1 if there is none");
        check.same("no order", Check.loaded(NOBODY).cryPrice(), -1);
        check.same("limits of 49 and 50", rich("bid a 49 9 9;offer a 50 9 9;").cryPrice(), -1);
        check.same("limits of 50 and 50", rich("bid a 50 9 9;offer a 50 9 9;").cryPrice(), 50);
        check.same("1", rich("bid a 1 9 9;offer a 1 9 9;").cryPrice(), 1);
        check.same("999", rich("bid a 999 9 9;offer a 999 9 9;").cryPrice(), 999);
        check.same("would be stopped", Check.loaded("market 9 1 1 time;trader a 999 9;bid a 50 9 9;offer a 50 9 9;").cryPrice(), 50);
        check.promise(32, "0 if there is none");
        check.same("no order", Check.loaded(NOBODY).cryVolume(), 0);
        check.same("limits of 49 and 50", rich("bid a 49 9 9;offer a 50 9 9;").cryVolume(), 0);
        check.same("limits of 50 and 50", rich("bid a 50 9 9;offer a 50 9 9;").cryVolume(), 9);
        check.same("one piece", rich("bid a 50 1 9;offer a 50 99 9;").cryVolume(), 1);
        check.same("one piece", rich("bid a 50 99 9;offer a 50 1 9;").cryVolume(), 1);
        check.same("the most", rich("bid a 50 99 9;".repeat(10) + "offer a 50 99 9;".repeat(10)).cryVolume(), 990);
        check.same("would be stopped", Check.loaded("market 9 1 1 time;trader a 999 9;bid a 50 9 9;offer a 50 9 9;").cryVolume(), 9);
    }

    private void stops() {
        check.promise(33, "by more than the band");
        NoonCry noon = Check.loaded("market 60 50 0 time;trader a 9999 9;bid a 60 9 9;offer a 60 9 9;");
        int[][] due = {{0, 0}, {1, 1}, {8, 1}, {9, 1}, {10, 0}, {11, 0}, {999, 0}};
        for (int[] row : due) {
            noon.setBand(row[0]);
            check.same("a band of " + row[0], noon.wouldStop() ? 1 : 0, row[1]);
        }
        noon.setBand(9);
        check.isTrue("stopped", noon.wouldStop());
        noon.cry();
        check.isFalse("from 59", noon.wouldStop());
        NoonCry below = Check.loaded("market 60 50 9 time;trader a 9999 9;bid a 41 9 9;offer a 41 9 9;");
        check.isFalse("9 below", below.wouldStop());
        below.setBand(8);
        check.isTrue("9 below", below.wouldStop());
        check.promise(33, "no price");
        check.isFalse("no order", Check.loaded("market 60 999 1 time;").wouldStop());
        check.isFalse("no volume", Check.loaded("market 60 999 1 time;trader a 9 9;bid a 1 1 9;offer a 2 1 9;").wouldStop());
    }

    private void fillsAndWorths() {
        NoonCry none = rich("bid a 49 9 9;offer a 50 9 9;");
        NoonCry stopped = Check.loaded("market 60 1 1 time;trader a 9999 9;bid a 999 9 9;offer a 999 1 9;");
        NoonCry most = rich("bid a 999 99 9;offer a 999 99 9;bid a 998 99 9;");
        check.promise(34, "0 if there is no price");
        check.same("a bid", none.fillOf(0), 0);
        check.same("an offer", none.fillOf(1), 0);
        check.promise(34, "whether the cry would be stopped or not");
        check.isTrue("stopped", stopped.wouldStop());
        check.same("a bid", stopped.fillOf(0), 1);
        check.same("an offer", stopped.fillOf(1), 1);
        check.promise(34, "0 to the quantity");
        check.same("all", most.fillOf(0), 99);
        check.same("nothing", most.fillOf(2), 0);
        check.promise(44, "0 if there is no price");
        check.same("a bid", none.worthOf(0), 0);
        check.same("an offer", none.worthOf(1), 0);
        check.promise(44, "the coins that its fill would cost or bring");
        check.same("a bid", most.worthOf(0), 98901);
        check.same("an offer", most.worthOf(1), 98901);
        check.same("no fill", most.worthOf(2), 0);
        check.same("stopped or not", stopped.worthOf(0), 999);
        check.same("one coin", rich("bid a 1 1 9;offer a 1 9 9;").worthOf(1), 1);
    }

    private void partialFills() {
        check.promise(35, "greater than 0 and less than their quantity");
        String[] orders = {"", "bid a 49 2 9;offer a 50 2 9;", "bid a 50 2 9;offer a 50 2 9;", "bid a 50 2 9;offer a 50 1 9;",
            "bid a 50 1 9;offer a 50 2 9;", "bid a 50 99 9;offer a 50 98 9;", "bid a 50 99 9;offer a 50 1 9;",
            "bid a 50 1 9;offer a 50 1 9;bid a 50 1 9;", "bid a 50 2 9;bid a 50 2 9;offer a 50 3 9;"};
        int[] due = {0, 0, 0, 1, 1, 1, 1, 0, 1};
        for (int each = 0; each < due.length; each++) {
            check.same(orders[each], rich(orders[each]).partialFills(), due[each]);
        }
        String shared = "rule share;" + "bid a 50 2 9;".repeat(19) + "offer a 50 ";
        check.same("18 of 19", rich(shared + "18 9;").partialFills(), 18);
        check.same("19 of 19", rich(shared + "19 9;").partialFills(), 19);
        check.same("one is full", rich(shared + "20 9;").partialFills(), 18);
        check.same("all are full", rich(shared + "38 9;").partialFills(), 0);
        check.same("the offer is not", rich(shared + "39 9;").partialFills(), 1);
    }

    private void lastLimits() {
        check.promise(36, "throws IllegalArgumentException if side is not 0 or 1");
        edges.inside("lastLimit", 0, 1, NoonCry::lastLimit, 53, 52);
        edges.outside("lastLimit", Edges.ARGUMENT, 0, 1, NoonCry::lastLimit);
        check.promise(36, "-1 if there is none");
        for (String orders : new String[] {"", "bid a 49 2 9;offer a 50 2 9;", "bid a 50 2 9;", "offer a 50 2 9;"}) {
            check.same("bids of " + orders, rich(orders).lastLimit(0), -1);
            check.same("offers of " + orders, rich(orders).lastLimit(1), -1);
        }
        check.promise(36, "the last order with a fill");
        String bids = "bid a 53 2 9;bid a 55 2 9;bid a 54 2 9;offer a 50 ";
        int[] due = {55, 55, 54, 54, 53, 53, 53};
        for (int volume = 1; volume <= 7; volume++) {
            check.same("the bid at " + volume, rich(bids + volume + " 9;").lastLimit(0), due[volume - 1]);
        }
        String offers = "offer a 47 2 9;offer a 45 2 9;offer a 46 2 9;bid a 50 ";
        int[] dueOffers = {45, 45, 46, 46, 47, 47, 47};
        for (int volume = 1; volume <= 7; volume++) {
            check.same("the offer at " + volume, rich(offers + volume + " 9;").lastLimit(1), dueOffers[volume - 1]);
        }
        check.same("1 and 999", rich("bid a 999 1 9;offer a 1 1 9;").lastLimit(0), 999);
        check.same("1 and 999", rich("bid a 999 1 9;offer a 1 1 9;").lastLimit(1), 1);
    }

    private void without() {
        check.promise(37, "-1 if there would be none");
        NoonCry two = rich("bid a 50 1 9;offer a 50 1 9;");
        check.same("without the bid", two.priceWithout(0), -1);
        check.same("without the offer", two.priceWithout(1), -1);
        check.promise(38, "no volume");
        check.same("without the bid", two.volumeWithout(0), 0);
        check.same("without the offer", two.volumeWithout(1), 0);
        NoonCry none = rich("bid a 49 9 9;offer a 50 9 9;");
        check.same("there is none with it", none.volumeWithout(0), 0);
        NoonCry full = rich("bid a 50 9 9;".repeat(19) + "offer a 50 99 9;");
        check.promise(37, "the first and the last one of 20");
        check.same("price", full.priceWithout(0), 50);
        check.same("price", full.priceWithout(18), 50);
        check.same("price", full.priceWithout(19), -1);
        check.promise(38, "the first and the last one of 20");
        check.same("volume", rich("bid a 50 5 9;".repeat(19) + "offer a 50 99 9;").volumeWithout(0), 90);
        check.same("volume", rich("bid a 50 5 9;".repeat(19) + "offer a 50 99 9;").volumeWithout(18), 90);
        check.same("volume", rich("bid a 50 6 9;".repeat(19) + "offer a 50 99 9;").volumeWithout(18), 99);
        check.same("volume", full.volumeWithout(19), 0);
        check.promise(37, "the price without the order that decides it");
        NoonCry decided = rich("bid a 60 5 9;bid a 40 9 9;offer a 40 5 9;offer a 70 5 9;");
        check.same("price", decided.cryPrice(), 50);
        check.same("price", decided.priceWithout(1), 50);
        check.same("price", rich("bid a 60 5 9;bid a 55 1 9;offer a 40 5 9;").cryPrice(), 56);
        check.same("price", rich("bid a 60 5 9;bid a 55 1 9;offer a 40 5 9;").priceWithout(1), 50);
        check.same("nothing has gone", decided.orderCount(), 4);
    }

    private void formsOfOneMoreOrder() {
        Edges.CallWith[] prices = {(noon, value) -> noon.priceWith(value, 50, 5), (noon, value) -> noon.priceWith(0, value, 5),
            (noon, value) -> noon.priceWith(0, 50, value)};
        Edges.CallWith[] fills = {(noon, value) -> noon.fillWith(value, 50, 5), (noon, value) -> noon.fillWith(0, value, 5),
            (noon, value) -> noon.fillWith(0, 50, value)};
        Edges.CallWith[] refusals = {(noon, value) -> noon.orderRefusal(1, value, 5, 5), (noon, value) -> noon.orderRefusal(1, 0, value, 5),
            (noon, value) -> noon.orderRefusal(1, 1, 5, value)};
        String[] names = {"side", "limit", "quantity"};
        int[] least = {0, 1, 1};
        int[] most = {1, 999, 99};
        int[][] duePrices = {{52, 50}, {52, 53}, {52, 52}};
        int[][] dueFills = {{0, 5}, {0, 5}, {0, 0}};
        int[][] dueRefusals = {{0, 0}, {0, 2}, {0, 3}};
        for (int each = 0; each < 3; each++) {
            check.promise(39, "throws IllegalArgumentException if " + names[each] + " is out of range");
            edges.inside(names[each], least[each], most[each], prices[each], duePrices[each][0], duePrices[each][1]);
            edges.outside(names[each], Edges.ARGUMENT, least[each], most[each], prices[each]);
            check.promise(40, "throws IllegalArgumentException if " + names[each] + " is out of range");
            edges.inside(names[each], least[each], most[each], fills[each], dueFills[each][0], dueFills[each][1]);
            edges.outside(names[each], Edges.ARGUMENT, least[each], most[each], fills[each]);
            check.promise(43, "throws IllegalArgumentException if " + names[each] + " is out of range");
            edges.inside(names[each], least[each], most[each], refusals[each], dueRefusals[each][0], dueRefusals[each][1]);
            edges.outside(names[each], Edges.ARGUMENT, least[each], most[each], refusals[each]);
        }
    }

    private void priceWith() {
        check.promise(39, "-1 if there would be none");
        check.same("the first order", Check.loaded(NOBODY).priceWith(0, 999, 99), -1);
        check.same("the first order", Check.loaded(NOBODY).priceWith(1, 1, 99), -1);
        check.same("limits of 49 and 50", rich("bid a 49 9 9;").priceWith(1, 50, 1), -1);
        check.same("limits of 50 and 50", rich("bid a 50 9 9;").priceWith(1, 50, 1), 50);
        check.same("limits of 1", rich("bid a 1 9 9;").priceWith(1, 1, 1), 1);
        check.same("limits of 999", rich("offer a 999 9 9;").priceWith(0, 999, 1), 999);
        check.promise(39, "of a trader with enough coins and goods");
        NoonCry poor = Check.loaded("market 60 50 0 time;trader a 50 1;bid a 50 1 9;offer a 60 1 9;");
        check.same("coins", poor.priceWith(0, 999, 99), 60);
        check.same("goods", poor.priceWith(1, 1, 99), 50);
        check.promise(39, "one more than 20 orders");
        check.same("bids", rich("bid a 50 9 9;".repeat(20)).priceWith(1, 50, 99), 50);
        check.same("offers", rich("offer a 50 9 9;".repeat(20)).priceWith(0, 50, 99), 50);
        check.same("no price", rich("offer a 50 9 9;".repeat(20)).priceWith(0, 49, 99), -1);
        NoonCry full = rich("bid a 60 9 9;".repeat(10) + "offer a 40 9 9;".repeat(10));
        check.same("all stand even", full.cryPrice(), 50);
        check.same("one piece more is wanted", full.priceWith(0, 55, 1), 56);
        check.same("one piece more is offered", full.priceWith(1, 45, 1), 44);
        check.same("nothing has come", full.cryPrice(), 50);
    }

    private void fillWith() {
        check.promise(40, "0 if there would be none");
        check.same("the first order", Check.loaded(NOBODY).fillWith(0, 999, 99), 0);
        check.same("limits of 49 and 50", rich("bid a 49 9 9;").fillWith(1, 50, 9), 0);
        check.same("limits of 50 and 50", rich("bid a 50 9 9;").fillWith(1, 50, 9), 9);
        check.same("limits of 50 and 50", rich("bid a 50 9 9;").fillWith(1, 50, 99), 9);
        check.promise(40, "behind all others");
        for (String rule : new String[] {"rule time;", "rule share;"}) {
            check.same("nothing is left", rich(rule + "bid a 51 9 9;offer a 50 9 9;").fillWith(0, 50, 9), 0);
            check.same("before all others by its limit", rich(rule + "bid a 50 9 9;offer a 50 9 9;").fillWith(0, 51, 9), 9);
            check.same("an offer before all others", rich(rule + "offer a 50 9 9;bid a 50 9 9;").fillWith(1, 49, 9), 9);
        }
        check.same("the rest of a limit", rich("bid a 50 9 9;offer a 50 10 9;").fillWith(0, 50, 9), 1);
        check.same("nothing of a limit", rich("bid a 50 9 9;offer a 50 9 9;").fillWith(0, 50, 9), 0);
        check.same("a share of a limit", rich("rule share;bid a 50 9 9;offer a 50 9 9;").fillWith(0, 50, 9), 4);
        check.same("the last piece goes to the others", rich("rule share;bid a 50 1 9;bid a 50 1 9;offer a 50 2 9;").fillWith(0, 50, 1), 0);
        check.promise(40, "one more than 20 orders");
        check.same("bids", rich("bid a 50 4 9;".repeat(20)).fillWith(1, 50, 99), 80);
        check.same("offers", rich("offer a 50 4 9;".repeat(20)).fillWith(0, 50, 79), 79);
        String nineteen = "bid a 50 1 9;".repeat(19) + "offer a 50 ";
        check.same("nothing is left", rich(nineteen + "19 9;").fillWith(0, 50, 9), 0);
        check.same("one piece is left", rich(nineteen + "20 9;").fillWith(0, 50, 9), 1);
        check.same("all is left", rich(nineteen + "99 9;").fillWith(0, 50, 9), 9);
        NoonCry full = rich(nineteen + "20 9;");
        full.fillWith(0, 50, 99);
        check.same("nothing has come", full.fillOf(19), 19);
        check.same("at the price of then", rich("bid a 60 5 9;offer a 40 4 9;").fillWith(1, 61, 9), 0);
        check.same("the most", rich("bid a 50 99 9;".repeat(20)).fillWith(1, 1, 99), 99);
    }

    private void toBuyAndToSell() {
        check.promise(41, "quantity: 1 to 999, throws IllegalArgumentException if it is out of range");
        edges.inside("priceToBuy", 1, 999, NoonCry::priceToBuy, 51, -1);
        edges.outside("priceToBuy", Edges.ARGUMENT, 1, 999, NoonCry::priceToBuy);
        check.promise(42, "quantity: 1 to 999, throws IllegalArgumentException if it is out of range");
        edges.inside("priceToSell", 1, 999, NoonCry::priceToSell, 53, -1);
        edges.outside("priceToSell", Edges.ARGUMENT, 1, 999, NoonCry::priceToSell);
        check.promise(41, "the supply is at least the quantity, -1 if there is none");
        NoonCry offers = rich("offer a 999 2 9;offer a 1 3 9;offer a 50 4 9;");
        int[][] buy = {{1, 1}, {3, 1}, {4, 50}, {7, 50}, {8, 999}, {9, 999}, {10, -1}, {999, -1}};
        for (int[] row : buy) {
            check.same("buy " + row[0], offers.priceToBuy(row[0]), row[1]);
        }
        check.same("no offer", rich("bid a 1 99 9;").priceToBuy(1), -1);
        check.same("no order", Check.loaded(NOBODY).priceToBuy(1), -1);
        check.promise(42, "the demand is at least the quantity, -1 if there is none");
        NoonCry bids = rich("bid a 1 2 9;bid a 999 3 9;bid a 50 4 9;");
        int[][] sell = {{1, 999}, {3, 999}, {4, 50}, {7, 50}, {8, 1}, {9, 1}, {10, -1}, {999, -1}};
        for (int[] row : sell) {
            check.same("sell " + row[0], bids.priceToSell(row[0]), row[1]);
        }
        check.same("no bid", rich("offer a 1 99 9;").priceToSell(1), -1);
        check.same("no order", Check.loaded(NOBODY).priceToSell(1), -1);
        NoonCry many = rich("offer a 7 99 9;".repeat(10) + "offer a 8 8 9;");
        check.promise(41, "998 and 999 pieces");
        check.same("998", many.priceToBuy(998), 8);
        check.same("999", many.priceToBuy(999), -1);
        check.same("999", rich("offer a 7 99 9;".repeat(10) + "offer a 8 9 9;").priceToBuy(999), 8);
        check.promise(42, "998 and 999 pieces");
        NoonCry demand = rich("bid a 7 99 9;".repeat(10) + "bid a 6 8 9;");
        check.same("998", demand.priceToSell(998), 6);
        check.same("999", demand.priceToSell(999), -1);
        check.same("999", rich("bid a 7 99 9;".repeat(10) + "bid a 6 9 9;").priceToSell(999), 6);
    }

    private void refusals() {
        check.promise(43, "throws IndexOutOfBoundsException if there is no such trader");
        Edges.CallWith byTrader = (noon, value) -> noon.orderRefusal(value, 1, 1, 15);
        edges.inside("orderRefusal", 0, 3, byTrader, 0, 3);
        edges.outside("orderRefusal", Edges.INDEX, 0, 3, byTrader);
        edges.refused("orderRefusal of nobody", Edges.INDEX, () -> Check.loaded(NOBODY), noon -> noon.orderRefusal(0, 0, 1, 1));
        check.fails("before the form", Edges.INDEX, () -> new NoonCry().orderRefusal(4, 2, 0, 0));
        check.promise(43, "0 if the order could be placed, otherwise the first reason that applies");
        NoonCry noon = Check.loaded("market 60 50 0 time;trader a 100 9;bid a 10 5 9;offer a 10 5 9;");
        check.same("just the coins", noon.orderRefusal(0, 0, 50, 1), 0);
        check.same("a coin more", noon.orderRefusal(0, 0, 51, 1), 2);
        check.same("a piece more", noon.orderRefusal(0, 0, 50, 2), 2);
        check.same("just the goods", noon.orderRefusal(0, 1, 999, 4), 0);
        check.same("a piece more", noon.orderRefusal(0, 1, 1, 5), 3);
        NoonCry full = Check.loaded("market 60 50 0 time;trader a 100 9;" + "bid a 1 1 9;".repeat(19));
        check.same("a 20th order", full.orderRefusal(0, 0, 81, 1), 0);
        check.same("a 20th order", full.orderRefusal(0, 0, 82, 1), 2);
        full.place(0, 1, 1, 1, 9);
        check.same("a 21st order", full.orderRefusal(0, 0, 81, 1), 1);
        check.same("a 21st order", full.orderRefusal(0, 0, 999, 99), 1);
        check.same("a 21st order", full.orderRefusal(0, 1, 999, 99), 1);
    }

    private void coinsAfterCry() {
        check.promise(45, "if the cry came now and was not stopped");
        NoonCry stopped = Check.loaded("market 60 1 1 time;trader a 999 0;trader b 0 9;bid a 999 1 9;offer b 999 1 9;");
        check.isTrue("stopped", stopped.wouldStop());
        check.same("the last coin", stopped.coinsAfterCry(0), 0);
        check.same("the first coins", stopped.coinsAfterCry(1), 999);
        check.same("nothing has been paid", stopped.coinsOf(0), 999);
        NoonCry none = Check.loaded("market 60 1 1 time;trader a 9 0;trader b 0 9;bid a 8 1 9;offer b 9 1 9;");
        check.same("no price", none.coinsAfterCry(0), 9);
        check.same("no price", none.coinsAfterCry(1), 0);
        NoonCry more = Check.loaded(Edges.RICH + "trader b 999999 99;bid a 999 99 9;offer b 999 99 9;");
        check.same("more than 999999", more.coinsAfterCry(1), 999999 + 98901);
        check.same("a buyer", more.coinsAfterCry(0), 999999 - 98901);
        check.same("with oneself", rich("bid a 60 9 9;offer a 40 9 9;").coinsAfterCry(0), 999999);
    }

    private void is(NoonCry noon, Object due, Edges.Call call) {
        check.sameText("a question", Check.answer(() -> call.on(noon)), due.toString());
    }

    private void aFullBook() {
        check.sentence("Orders: questions of a book of 20 orders");
        NoonCry full = rich("rule share;" + "bid a 50 2 9;".repeat(10) + "offer a 50 3 9;".repeat(10));
        for (int twice = 0; twice < 2; twice++) {
            is(full, 20, NoonCry::orderCount);
            is(full, 50, NoonCry::bestBid);
            is(full, 50, NoonCry::bestOffer);
            is(full, 50, NoonCry::cryPrice);
            is(full, 20, NoonCry::cryVolume);
            is(full, 10, NoonCry::partialFills);
            is(full, false, NoonCry::wouldStop);
            is(full, 0, NoonCry::coinDifference);
            is(full, 0, NoonCry::goodDifference);
            is(full, 998999, of -> of.freeCoins(0));
            is(full, 9969, of -> of.freeGoods(0));
            is(full, 999999, of -> of.coinsAfterCry(0));
            is(full, 20, of -> of.demandAt(50));
            is(full, 30, of -> of.supplyAt(50));
            is(full, 50, of -> of.lastLimit(0));
            is(full, 50, of -> of.lastLimit(1));
            is(full, 50, of -> of.priceToBuy(30));
            is(full, -1, of -> of.priceToBuy(31));
            is(full, 50, of -> of.priceToSell(20));
            is(full, -1, of -> of.priceToSell(21));
            is(full, 69, of -> of.printSide(0));
            is(full, 69, of -> of.printSide(1));
            is(full, 2, of -> of.fillOf(0));
            is(full, 2, of -> of.fillOf(19));
            is(full, 100, of -> of.worthOf(19));
            is(full, 9, of -> of.rankOf(9));
            is(full, 9, of -> of.rankOf(19));
            is(full, 10, of -> of.minutesLeft(19));
            is(full, 50, of -> of.priceWithout(0));
            is(full, 18, of -> of.volumeWithout(0));
            is(full, 20, of -> of.volumeWithout(19));
            is(full, 50, of -> of.priceWith(0, 50, 1));
            is(full, 1, of -> of.fillWith(0, 50, 1));
            is(full, 1, of -> of.fillWith(1, 50, 3));
            is(full, 1, of -> of.orderRefusal(0, 0, 1, 1));
            is(full, 1, of -> of.orderRefusal(0, 1, 1, 1));
        }
        check.sentence("Orders: cries and minutes with a book of 20 orders");
        check.same("pass", full.pass(60), 0);
        check.same("all are late", full.lateOrders(), 20);
        full.undo();
        check.same("cry", full.cry(), 20);
        check.same("ten are left", full.orderCount(), 10);
        check.same("with one piece", full.quantityOf(19), 1);
    }

    private void ordersThatAreGone() {
        check.sentence("Orders: an order that went does not count any more");
        NoonCry noon = rich("bid a 50 9 9;offer a 50 5 9;offer a 49 6 9;bid a 51 3 9;");
        check.same("partial fills of all", noon.partialFills(), 1);
        check.same("the last offer of all", noon.lastLimit(1), 50);
        noon.withdraw(3);
        is(noon, 50, NoonCry::bestBid);
        is(noon, 49, NoonCry::bestOffer);
        is(noon, 50, of -> of.lastLimit(1));
        is(noon, 50, of -> of.lastLimit(0));
        is(noon, 9, of -> of.demandAt(50));
        is(noon, 0, of -> of.demandAt(51));
        is(noon, -1, of -> of.priceToSell(10));
        is(noon, 1, NoonCry::partialFills);
        noon.withdraw(2);
        is(noon, 50, NoonCry::bestOffer);
        is(noon, 5, of -> of.supplyAt(50));
        is(noon, 0, of -> of.supplyAt(49));
        is(noon, -1, of -> of.priceToBuy(6));
        is(noon, 50, of -> of.priceToBuy(5));
        is(noon, 1, NoonCry::partialFills);
        is(noon, 5, of -> of.fillOf(1));
        is(noon, 50, of -> of.lastLimit(1));
        is(noon, 9994, of -> of.freeGoods(0));
        noon.withdraw(1);
        is(noon, -1, NoonCry::bestOffer);
        is(noon, -1, NoonCry::cryPrice);
        is(noon, 0, NoonCry::partialFills);
        is(noon, 0, of -> of.fillOf(0));
        is(noon, -1, of -> of.lastLimit(0));
        is(noon, 0, of -> of.supplyAt(999));
        is(noon, -1, of -> of.priceToBuy(1));
        is(noon, 1, of -> of.printSide(1));
        noon.withdraw(0);
        is(noon, -1, NoonCry::bestBid);
        is(noon, 0, of -> of.demandAt(1));
        is(noon, -1, of -> of.priceToSell(1));
        is(noon, 999999, of -> of.freeCoins(0));
        is(noon, 9999, of -> of.freeGoods(0));
        is(noon, 4, of -> of.place(0, 0, 1, 1, 1));
    }

    private void fillsThatAreGone() {
        check.sentence("Orders: a fill that was does not count any more");
        NoonCry noon = rich("bid a 50 9 9;offer a 49 6 9;offer a 50 5 9;");
        check.same("the second offer in part", noon.partialFills(), 1);
        noon.withdraw(2);
        check.same("the bid in part", noon.partialFills(), 1);
        check.same("bids", noon.lastLimit(0), 50);
        check.same("offers", noon.lastLimit(1), 49);
        NoonCry one = rich("bid a 50 9 9;offer a 50 9 9;");
        check.same("one more", one.fillWith(1, 49, 5), 5);
        check.same("it is not there", one.partialFills(), 0);
        check.same("without the offer", one.volumeWithout(1), 0);
        check.same("it is there", one.fillOf(1), 9);
    }

    private void countsOfCries() {
        NoonCry noon = Check.loaded("market 1 50 1 time;trader a 99999 999;bid a 50 9 99;offer a 52 9 99;");
        String[] names = {"a cry without a price", "a cry that is stopped", "one that trades", "one without a price again"};
        int[] limits = {51, 52, 52, 51};
        int[][] due = {{0, 0, 0}, {0, 0, 1}, {9, 1, 1}, {9, 1, 1}};
        for (int step = 0; step < 4; step++) {
            noon.place(0, 0, limits[step], 9, 99);
            noon.pass(1);
            check.promise(46, names[step]);
            check.same("pieces", noon.tradedPieces(), due[step][0]);
            check.promise(47, names[step]);
            check.same("good", noon.goodCries(), due[step][1]);
            check.promise(48, names[step]);
            check.same("stopped", noon.stoppedCries(), due[step][2]);
        }
        String text = "market 1 50 1 time;trader a 99999 999;bid a 52 9 99;offer a 52 9 99;cry;cry;cry;";
        check.promise(46, "including the text");
        check.same("of a new object", new NoonCry().tradedPieces(), 20);
        check.same("pieces", Check.loaded(text).tradedPieces(), 9);
        check.same("none", Check.loaded(NOBODY).tradedPieces(), 0);
        check.same("the most of a cry", tradedAtOnce(), 990);
        check.promise(47, "including the text");
        check.same("of a new object", new NoonCry().goodCries(), 1);
        check.same("good", Check.loaded(text).goodCries(), 1);
        check.same("none", Check.loaded(NOBODY + "cry;pass 300;").goodCries(), 0);
        check.promise(48, "including the text");
        check.same("of a new object", new NoonCry().stoppedCries(), 0);
        check.same("stopped", Check.loaded(text).stoppedCries(), 1);
        check.same("none", Check.loaded(NOBODY + "band 1;cry;pass 300;").stoppedCries(), 0);
    }

    private static int tradedAtOnce() {
        NoonCry noon = rich("bid a 50 99 9;".repeat(10) + "offer a 50 99 9;".repeat(10));
        noon.cry();
        return noon.tradedPieces();
    }

    private void lateOrders() {
        check.promise(49, "because of their last minute alone");
        NoonCry noon = rich("bid a 1 1 0;bid a 1 1 0;bid a 1 1 1;bid a 60 1 9;offer a 60 1 9;bid a 1 1 9;");
        noon.withdraw(0);
        check.same("a withdraw", noon.lateOrders(), 0);
        noon.cry();
        check.same("a cry", noon.lateOrders(), 0);
        noon.pass(1);
        check.same("one", noon.lateOrders(), 1);
        noon.pass(1);
        check.same("two", noon.lateOrders(), 2);
        noon.pass(7);
        check.same("one stays", noon.lateOrders(), 2);
        noon.pass(1);
        check.same("three", noon.lateOrders(), 3);
        check.promise(49, "including the text");
        check.same("late", rich("bid a 1 1 0;bid a 1 1 1;pass 1;").lateOrders(), 1);
        check.same("cleared, withdrawn", rich("bid a 1 1 0;bid a 1 1 1;withdraw 0;clear a;pass 9;").lateOrders(), 0);
        check.same("none", Check.loaded(NOBODY).lateOrders(), 0);
        check.same("of a new object", new NoonCry().lateOrders(), 0);
    }

    private void differences() {
        String[] texts = {NOBODY, NOBODY + "trader a 0 0;", Edges.RICH, Edges.HEAD + "give a b 9;", Edges.FIRST,
            "market 1 50 0 share;trader a 999999 9999;trader b 999999 9999;give b a 9999;bid b 999 99 9;offer a 999 99 9;"};
        for (String text : texts) {
            NoonCry noon = Check.loaded(text);
            difference("loaded", noon);
            if (noon.traderCount() > 0) {
                Check.answer(() -> noon.pay(0, 99999));
                difference("paid in", noon);
            }
            noon.cry();
            difference("behind a cry", noon);
            noon.pass(300);
            difference("behind minutes", noon);
            noon.save(0);
            noon.undo();
            noon.undo();
            difference("undone", noon);
            noon.restore(0);
            difference("restored", noon);
            Check.load(noon, Edges.RICH);
            difference("loaded again", noon);
        }
    }

    private void difference(String what, NoonCry noon) {
        check.promise(50, "always 0");
        check.same(what, noon.coinDifference(), 0);
        check.promise(51, "always 0");
        check.same(what, noon.goodDifference(), 0);
    }

    private void tradedShare() {
        check.promise(52, "0.0f if there were none");
        check.sameReal("no order", Check.loaded(NOBODY).tradedShare(), 0.0f);
        check.sameReal("nothing is traded", rich("bid a 1 99 9;").tradedShare(), 0.0f);
        check.promise(52, "both converted to float");
        check.sameReal("all", rich("bid a 9 1 9;offer a 9 1 9;cry;").tradedShare(), 0.5f);
        check.sameReal("a third", rich("bid a 9 1 9;offer a 9 2 9;cry;").tradedShare(), 1.0f / 3.0f);
        check.sameReal("gone orders were placed", rich("bid a 9 1 0;bid a 9 2 9;offer a 10 3 9;withdraw 1;pass 1;clear a;bid a 9 1 9;offer a 9 1 9;cry;").tradedShare(), 1.0f / 8.0f);
        NoonCry noon = rich("bid a 9 7 9;");
        check.fails("refused ones were not", Edges.ARGUMENT, () -> noon.place(0, 0, 1, 100, 1));
        noon.place(0, 1, 9, 3, 9);
        noon.cry();
        check.sameReal("placed by calls", noon.tradedShare(), 3.0f / 10.0f);
        noon.undo();
        check.sameReal("undone", noon.tradedShare(), 0.0f);
    }

    private void meanPrice() {
        check.promise(53, "0.0 if there were none");
        check.sameReal("no order", Check.loaded(NOBODY).meanPrice(), 0.0);
        check.sameReal("nothing is traded", rich("bid a 1 99 9;cry;").meanPrice(), 0.0);
        check.promise(53, "both converted to double");
        check.sameReal("1", rich("bid a 1 9 9;offer a 1 1 9;cry;").meanPrice(), 1.0);
        check.sameReal("999", rich("bid a 999 9 9;offer a 999 1 9;cry;").meanPrice(), 999.0);
        String both = "bid a 50 1 9;offer a 50 1 9;cry;bid a 51 2 9;offer a 51 2 9;cry;";
        check.sameReal("a third", rich(both).meanPrice(), 152.0 / 3.0);
        NoonCry much = rich("bid a 999 99 9;".repeat(10) + "offer a 999 99 9;".repeat(10) + "cry;");
        for (int trade = 0; trade < 150; trade++) {
            much.place(0, 0, 999, 99, 9);
            much.place(0, 1, 999, 99, 9);
            much.cry();
        }
        check.sameReal("many coins", much.meanPrice(), 999.0);
        check.same("many pieces", much.tradedPieces(), 990 + 150 * 99);
    }
}
