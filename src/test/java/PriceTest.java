import java.util.NoSuchElementException;

/** Promises 25 to 45: demand and supply, the price, the fills, and the forecasts. */
public final class PriceTest {
    private static final Check check = new Check("PriceTest");
    private static final int[] NO_ORDERS = {-1, 0, 99, Integer.MIN_VALUE, Integer.MAX_VALUE};

    public static void main(String[] args) {
        promises25To28();
        promises29And30();
        promises31And32();
        ties();
        promise33();
        promise34();
        shares();
        promise35();
        promise36();
        promises37And38();
        promise39();
        promise40();
        promises41And42();
        promise43();
        promise44();
        promise45();
        forecastsChangeNothing();
        check.finish();
    }

    /** A market in which a has coins and goods without end, with a last price and a rule. */
    private static NoonCry market(int price, String rule, String orders) {
        return Check.loaded("market 60 " + price + " 0 " + rule + ";trader a 999999 9999;" + orders);
    }

    private static void promises25To28() {
        NoonCry noon = new NoonCry();
        int[][] due = {{1, 9, 0}, {50, 9, 0}, {51, 4, 0}, {52, 4, 5}, {53, 4, 10}, {54, 0, 10}, {57, 0, 10}, {58, 0, 16}, {999, 0, 16}};
        for (int[] row : due) {
            check.same("demandAt", noon.demandAt(row[0]), row[1]);
            check.same("supplyAt", noon.supplyAt(row[0]), row[2]);
            check.same("volumeAt", noon.volumeAt(row[0]), Math.min(row[1], row[2]));
            check.same("excessAt", noon.excessAt(row[0]), row[1] - row[2]);
        }
        for (int price : new int[] {0, -1, 1000, Integer.MIN_VALUE, Integer.MAX_VALUE}) {
            check.fails("demandAt", IllegalArgumentException.class, () -> noon.demandAt(price));
            check.fails("supplyAt", IllegalArgumentException.class, () -> noon.supplyAt(price));
            check.fails("volumeAt", IllegalArgumentException.class, () -> noon.volumeAt(price));
            check.fails("excessAt", IllegalArgumentException.class, () -> noon.excessAt(price));
        }
        NoonCry edges = market(1, "time", "bid a 999 3 9;offer a 1 2 9;");
        check.same("demandAt 999", edges.demandAt(999), 3);
        check.same("supplyAt 1", edges.supplyAt(1), 2);
    }

    private static void promises29And30() {
        NoonCry noon = new NoonCry();
        check.same("bestBid", noon.bestBid(), 53);
        check.same("bestOffer", noon.bestOffer(), 52);
        noon.cry();
        check.same("bestBid", noon.bestBid(), 50);
        noon.withdraw(3);
        check.same("bestOffer", noon.bestOffer(), 53);
        noon = market(1, "time", "bid a 999 1 9;");
        check.same("bestBid", noon.bestBid(), 999);
        check.same("bestOffer", noon.bestOffer(), -1);
        noon = market(1, "time", "offer a 1 1 9;");
        check.same("bestBid", noon.bestBid(), -1);
        check.same("bestOffer", noon.bestOffer(), 1);
    }

    private static void promises31And32() {
        NoonCry noon = new NoonCry();
        check.same("cryPrice", noon.cryPrice(), 52);
        check.same("cryVolume", noon.cryVolume(), 4);
        noon.withdraw(6);
        check.same("cryPrice", noon.cryPrice(), -1);
        check.same("cryVolume", noon.cryVolume(), 0);
        noon.undo();
        check.same("cryVolume behind a change", noon.cryVolume(), 4);
        noon = market(500, "time", "");
        check.same("no orders", noon.cryPrice(), -1);
        check.same("no orders", noon.cryVolume(), 0);
        noon = market(500, "time", "bid a 49 1 9;offer a 50 1 9;");
        check.same("no crossing", noon.cryPrice(), -1);
        noon = market(500, "time", "bid a 50 1 9;offer a 50 1 9;");
        check.same("one price", noon.cryPrice(), 50);
        check.same("one piece", noon.cryVolume(), 1);
    }

    private static void ties() {
        String even = "bid a 60 5 9;offer a 40 5 9;";
        check.same("nearest below", market(10, "time", even).cryPrice(), 40);
        check.same("nearest above", market(90, "time", even).cryPrice(), 60);
        check.same("the last price", market(47, "time", even).cryPrice(), 47);
        check.same("the whole range", market(321, "time", "bid a 999 1 9;offer a 1 1 9;").cryPrice(), 321);
        check.same("the lowest price", market(1, "time", "bid a 999 1 9;offer a 1 1 9;").cryPrice(), 1);
        check.same("999 alone", market(5, "time", "bid a 999 1 9;offer a 999 1 9;").cryPrice(), 999);
        check.same("1 alone", market(5, "time", "bid a 1 1 9;offer a 1 1 9;").cryPrice(), 1);
        check.same("the highest price", market(999, "time", "bid a 999 1 9;offer a 1 1 9;").cryPrice(), 999);
        // the surplus is 2 everywhere, of demand up to 50 and of supply from 51 on
        String two = "bid a 60 5 9;bid a 50 2 9;offer a 40 5 9;offer a 51 2 9;";
        check.same("the same surplus", market(50, "time", two).cryPrice(), 50);
        // the surplus is 2 up to 50, where there is more demand, and 1 from 51 on, where there is more supply
        check.same("smaller surplus above", market(45, "time", "bid a 60 5 9;bid a 50 2 9;offer a 40 5 9;offer a 51 1 9;").cryPrice(), 51);
        check.same("smaller surplus below", market(55, "time", "bid a 60 5 9;bid a 50 1 9;offer a 40 5 9;offer a 51 2 9;").cryPrice(), 50);
        String gap = "bid a 60 7 9;bid a 49 2 9;offer a 40 7 9;offer a 51 2 9;";
        check.same("no surplus between", market(10, "time", gap).cryPrice(), 50);
        String apart = "bid a 60 5 9;bid a 49 2 9;bid a 50 2 9;offer a 40 9 9;offer a 51 4 9;";
        check.same("greatest volume before nearness", market(60, "time", apart).cryPrice(), 49);
        // surplus 1 at 45 to 50 and, when the demand falls below the supply, at 51 to 55
        String both = "bid a 55 4 9;bid a 50 2 9;offer a 45 5 9;";
        check.same("volume 5 up to 50", market(55, "time", both).cryPrice(), 50);
        String same = "bid a 60 4 9;bid a 45 2 9;offer a 40 4 9;offer a 55 2 9;";
        check.same("surplus 0 from 46 to 54", market(45, "time", same).cryPrice(), 46);
        check.same("surplus 0 from 46 to 54", market(99, "time", same).cryPrice(), 54);
    }

    private static void promise33() {
        NoonCry noon = Check.loaded("market 60 50 3 time;trader a 9999 99;offer a 54 1 9;bid a 54 1 9;");
        check.isTrue("4 from the last price", noon.wouldStop());
        noon.setBand(4);
        check.isFalse("just the band", noon.wouldStop());
        noon.setBand(0);
        check.isFalse("no band", noon.wouldStop());
        noon.setBand(1);
        noon.withdraw(0);
        check.isFalse("no price", noon.wouldStop());
        check.isTrue("below", Check.loaded("market 60 50 3 time;trader a 9999 99;offer a 46 1 9;bid a 46 1 9;").wouldStop());
        check.isFalse("below", Check.loaded("market 60 50 3 time;trader a 9999 99;offer a 47 1 9;bid a 47 1 9;").wouldStop());
    }

    private static void fills(String what, NoonCry noon, int... due) {
        for (int order = 0; order < due.length; order++) {
            check.same(what + ": fillOf " + order, noon.fillOf(order), due[order]);
        }
    }

    private static void promise34() {
        NoonCry noon = new NoonCry();
        check.same("fillOf", noon.fillOf(6), 4);
        check.same("fillOf", noon.fillOf(3), 4);
        check.same("fillOf", noon.fillOf(5), 0);
        check.same("fillOf", noon.fillOf(7), 0);
        for (int order : NO_ORDERS) {
            check.fails("fillOf", NoSuchElementException.class, () -> noon.fillOf(order));
        }
        noon.withdraw(6);
        check.same("no price", noon.fillOf(3), 0);
        fills("by limits", market(50, "time", "bid a 50 4 9;bid a 52 3 9;bid a 50 5 9;bid a 49 9 9;offer a 50 9 9;"), 4, 3, 2, 0, 9);
        fills("by offers", market(50, "time", "offer a 50 4 9;offer a 48 3 9;offer a 50 5 9;offer a 51 9 9;bid a 50 9 9;"), 4, 3, 2, 0, 9);
        NoonCry stopped = Check.loaded("market 60 1 1 time;trader a 9999 99;offer a 50 2 9;bid a 50 1 9;");
        check.isTrue("stopped", stopped.wouldStop());
        fills("stopped or not", stopped, 1, 1);
    }

    private static void shares() {
        fills("share", market(50, "share", "bid a 50 4 9;bid a 52 3 9;bid a 50 5 9;bid a 49 9 9;offer a 50 9 9;"), 3, 3, 3, 0, 9);
        fills("what is left, by numbers", market(50, "share", "bid a 50 5 9;bid a 50 5 9;bid a 50 5 9;offer a 50 8 9;"), 3, 3, 2, 8);
        fills("small ones", market(50, "share", "bid a 50 1 9;bid a 50 1 9;bid a 50 98 9;offer a 50 50 9;"), 1, 0, 49, 50);
        fills("both sides full", market(50, "share", "bid a 50 7 9;offer a 50 3 9;offer a 50 4 9;"), 7, 3, 4);
        fills("the last limit is full", market(50, "share", "bid a 50 3 9;bid a 50 2 9;bid a 49 5 9;offer a 40 5 9;"), 3, 2, 0, 5);
        fills("offers", market(50, "share", "offer a 40 2 9;offer a 45 6 9;offer a 45 3 9;offer a 60 3 9;bid a 50 7 9;"), 2, 4, 1, 0, 7);
    }

    private static void promise35() {
        check.same("partialFills", new NoonCry().partialFills(), 1);
        check.same("none", market(50, "time", "bid a 50 2 9;offer a 60 2 9;").partialFills(), 0);
        check.same("whole ones", market(50, "time", "bid a 50 2 9;offer a 50 2 9;").partialFills(), 0);
        check.same("shared", market(50, "share", "bid a 50 4 9;bid a 50 4 9;bid a 50 4 9;offer a 50 2 9;").partialFills(), 2);
        NoonCry inTime = market(50, "time", "bid a 50 4 9;bid a 50 4 9;bid a 50 4 9;offer a 50 2 9;");
        check.same("in time", inTime.partialFills(), 1);
        inTime.withdraw(3);
        check.same("after a withdraw", inTime.partialFills(), 0);
    }

    private static void promise36() {
        NoonCry noon = new NoonCry();
        check.same("lastLimit 0", noon.lastLimit(0), 53);
        check.same("lastLimit 1", noon.lastLimit(1), 52);
        for (int side : new int[] {-1, 2, Integer.MIN_VALUE, Integer.MAX_VALUE}) {
            check.fails("lastLimit", IllegalArgumentException.class, () -> noon.lastLimit(side));
        }
        noon.withdraw(6);
        check.same("no price", noon.lastLimit(0), -1);
        check.same("no price", noon.lastLimit(1), -1);
        NoonCry deep = market(50, "time", "bid a 60 2 9;bid a 55 2 9;bid a 52 2 9;offer a 40 3 9;offer a 45 1 9;");
        check.same("the second bid", deep.lastLimit(0), 55);
        check.same("the second offer", deep.lastLimit(1), 45);
        deep.withdraw(4);
        check.same("after a withdraw", deep.lastLimit(1), 40);
        check.same("after a withdraw", deep.lastLimit(0), 55);
        deep.withdraw(3);
        check.same("after a withdraw", deep.lastLimit(0), -1);
    }

    private static void promises37And38() {
        NoonCry noon = new NoonCry();
        int[][] due = {{3, 53, 4}, {4, 52, 4}, {5, 52, 4}, {6, -1, 0}, {7, 52, 4}};
        for (int[] row : due) {
            check.same("priceWithout", noon.priceWithout(row[0]), row[1]);
        }
        for (int[] row : due) {
            check.same("volumeWithout", noon.volumeWithout(row[0]), row[2]);
        }
        for (int order : NO_ORDERS) {
            check.fails("priceWithout", NoSuchElementException.class, () -> noon.priceWithout(order));
            check.fails("volumeWithout", NoSuchElementException.class, () -> noon.volumeWithout(order));
        }
    }

    private static void wrongForms(NoonCry noon) {
        int[][] wrong = {{-1, 5, 5}, {2, 5, 5}, {0, 0, 5}, {0, 1000, 5}, {1, 5, 0}, {1, 5, 100},
            {Integer.MAX_VALUE, 5, 5}, {0, Integer.MIN_VALUE, 5}, {0, 5, Integer.MAX_VALUE}};
        for (int[] row : wrong) {
            check.fails("priceWith", IllegalArgumentException.class, () -> noon.priceWith(row[0], row[1], row[2]));
            check.fails("fillWith", IllegalArgumentException.class, () -> noon.fillWith(row[0], row[1], row[2]));
            check.fails("orderRefusal", IllegalArgumentException.class, () -> noon.orderRefusal(0, row[0], row[1], row[2]));
            check.fails("orderRefusal", IndexOutOfBoundsException.class, () -> noon.orderRefusal(4, row[0], row[1], row[2]));
            check.fails("place", IllegalArgumentException.class, () -> noon.place(0, row[0], row[1], row[2], 1));
            check.fails("place", IndexOutOfBoundsException.class, () -> noon.place(-1, row[0], row[1], row[2], 1));
        }
    }

    private static void promise39() {
        NoonCry noon = new NoonCry();
        wrongForms(noon);
        check.same("priceWith", noon.priceWith(0, 60, 10), 54);
        check.same("priceWith", noon.priceWith(1, 40, 3), 52);
        check.same("priceWith without coins", noon.priceWith(0, 999, 99), 58);
        check.same("none", market(50, "time", "").priceWith(0, 999, 99), -1);
        check.same("none", market(50, "time", "bid a 5 5 9;").priceWith(1, 6, 9), -1);
        check.same("a 21st order", market(50, "time", "bid a 1 1 9;".repeat(20)).priceWith(1, 1, 99), 1);
    }

    private static void promise40() {
        NoonCry noon = new NoonCry();
        check.same("fillWith", noon.fillWith(0, 60, 10), 10);
        check.same("fillWith", noon.fillWith(1, 40, 3), 3);
        check.same("fillWith", noon.fillWith(1, 99, 1), 0);
        check.same("behind all others", noon.fillWith(0, 53, 8), 6);
        check.same("none", market(50, "time", "").fillWith(0, 999, 99), 0);
        check.same("a 21st order", market(50, "time", "bid a 1 1 9;".repeat(20)).fillWith(1, 1, 99), 20);
        check.same("a 21st bid", market(50, "time", "bid a 1 1 9;".repeat(19) + "offer a 1 20 9;").fillWith(0, 1, 5), 1);
        check.same("shared", market(50, "share", "bid a 50 4 9;offer a 50 4 9;").fillWith(0, 50, 4), 2);
        check.same("shared, and the rest before", market(50, "share", "bid a 50 4 9;offer a 50 5 9;").fillWith(0, 50, 4), 2);
    }

    private static void promises41And42() {
        NoonCry noon = new NoonCry();
        int[][] buy = {{1, 52}, {5, 52}, {6, 53}, {10, 53}, {11, 58}, {16, 58}, {17, -1}, {999, -1}};
        for (int[] row : buy) {
            check.same("priceToBuy", noon.priceToBuy(row[0]), row[1]);
        }
        int[][] sell = {{1, 53}, {4, 53}, {5, 50}, {9, 50}, {10, -1}, {999, -1}};
        for (int[] row : sell) {
            check.same("priceToSell", noon.priceToSell(row[0]), row[1]);
        }
        for (int quantity : new int[] {0, -1, 1000, Integer.MIN_VALUE, Integer.MAX_VALUE}) {
            check.fails("priceToBuy", IllegalArgumentException.class, () -> noon.priceToBuy(quantity));
            check.fails("priceToSell", IllegalArgumentException.class, () -> noon.priceToSell(quantity));
        }
        NoonCry great = market(5, "time", "offer a 7 99 9;".repeat(11));
        check.same("999 pieces", great.priceToBuy(999), 7);
        check.same("no bids", great.priceToSell(1), -1);
        check.same("one bid", market(5, "time", "bid a 8 9 9;").priceToSell(9), 8);
        NoonCry full = market(5, "time", "bid a 5 1 9;".repeat(10) + "offer a 6 1 9;".repeat(10));
        check.same("a full book", full.priceToSell(10), 5);
        check.same("a full book", full.priceToSell(11), -1);
        check.same("a full book", full.priceToBuy(10), 6);
        check.same("a full book", full.priceToBuy(11), -1);
    }

    private static void promise43() {
        NoonCry noon = new NoonCry();
        check.same("coins", noon.orderRefusal(0, 0, 999, 2), 2);
        check.same("just the coins", noon.orderRefusal(0, 0, 99, 16), 0);
        check.same("one more", noon.orderRefusal(0, 0, 317, 5), 2);
        check.same("free coins only", noon.orderRefusal(3, 0, 13, 90), 0);
        check.same("free coins only", noon.orderRefusal(3, 0, 13, 91), 2);
        check.same("goods", noon.orderRefusal(1, 1, 5, 13), 3);
        check.same("just the goods", noon.orderRefusal(1, 1, 5, 12), 0);
        check.same("free goods only", noon.orderRefusal(3, 1, 5, 6), 3);
        check.same("free goods only", noon.orderRefusal(3, 1, 5, 5), 0);
        for (int trader : new int[] {-1, 4, Integer.MIN_VALUE, Integer.MAX_VALUE}) {
            check.fails("orderRefusal", IndexOutOfBoundsException.class, () -> noon.orderRefusal(trader, 0, 1, 1));
        }
        NoonCry full = Check.loaded("market 1 1 0 time;trader a 20 0;" + "bid a 1 1 9;".repeat(20));
        check.same("20 orders", full.orderRefusal(0, 0, 1, 1), 1);
        check.same("20 orders first", full.orderRefusal(0, 1, 1, 1), 1);
        full.withdraw(3);
        check.same("19 orders", full.orderRefusal(0, 0, 1, 1), 0);
        check.same("19 orders", full.orderRefusal(0, 1, 1, 1), 3);
    }

    private static void promise44() {
        NoonCry noon = new NoonCry();
        check.same("worthOf", noon.worthOf(6), 208);
        check.same("worthOf", noon.worthOf(3), 208);
        check.same("worthOf", noon.worthOf(7), 0);
        for (int order : NO_ORDERS) {
            check.fails("worthOf", NoSuchElementException.class, () -> noon.worthOf(order));
        }
        noon.withdraw(6);
        check.same("no price", noon.worthOf(3), 0);
    }

    private static void promise45() {
        NoonCry noon = new NoonCry();
        int[] due = {1584, 2168, 1020, 1628};
        for (int trader = 0; trader < due.length; trader++) {
            check.same("coinsAfterCry", noon.coinsAfterCry(trader), due[trader]);
        }
        for (int trader : new int[] {-1, 4, Integer.MIN_VALUE, Integer.MAX_VALUE}) {
            check.fails("coinsAfterCry", IndexOutOfBoundsException.class, () -> noon.coinsAfterCry(trader));
        }
        noon.withdraw(3);
        noon.setBand(1);
        noon.place(1, 0, 90, 10, 1);
        check.isTrue("stopped", noon.wouldStop());
        check.same("as if it was not stopped", noon.coinsAfterCry(3), 1420 + 5 * noon.cryPrice());
        NoonCry full = market(5, "time", "bid a 5 1 9;".repeat(20) + "trader b 0 9;");
        check.same("a full book", full.coinsAfterCry(0), 999999);
        full.withdraw(0);
        full.place(1, 1, 5, 9, 9);
        check.same("a full book", full.coinsAfterCry(0), 999999 - 45);
        check.same("a full book", full.coinsAfterCry(1), 45);
        NoonCry quiet = new NoonCry();
        quiet.withdraw(6);
        check.same("no price", quiet.coinsAfterCry(3), 1420);
    }

    private static void forecastsChangeNothing() {
        NoonCry noon = new NoonCry();
        String before = Check.state(noon);
        noon.priceWithout(6);
        noon.volumeWithout(3);
        noon.priceWith(0, 60, 10);
        noon.fillWith(1, 40, 3);
        noon.coinsAfterCry(1);
        noon.orderRefusal(1, 1, 5, 12);
        noon.wouldStop();
        check.sameText("state", Check.state(noon), before);
        check.same("fill after forecasts", noon.fillOf(6), 4);
        check.fails("nothing to undo", IllegalStateException.class, noon::undo);
    }
}
