import java.util.NoSuchElementException;

/** Promises 7 to 24: what the market, the traders and the orders are. */
public final class StateTest {
    private static final Check check = new Check("StateTest");
    private static final int[] NO_ORDERS = {-1, 0, 1, 2, 5, 8, 20, Integer.MIN_VALUE, Integer.MAX_VALUE};
    private static final int[] NO_TRADERS = {-1, 4, 8, Integer.MIN_VALUE, Integer.MAX_VALUE};

    public static void main(String[] args) {
        promises7To10();
        promise11();
        promise12();
        promises13And14();
        promises15And16();
        promises17And18();
        promises19To22();
        promise23();
        promise24();
        check.finish();
    }

    private static NoonCry first() {
        NoonCry noon = new NoonCry();
        noon.withdraw(5);
        return noon;
    }

    private static void promises7To10() {
        NoonCry noon = new NoonCry();
        check.same("minute", noon.minute(), 5);
        check.same("lastPrice", noon.lastPrice(), 52);
        check.same("band", noon.band(), 20);
        check.same("rule", noon.rule(), 0);
        noon.pass(300);
        check.same("minute", noon.minute(), 305);
        noon.setBand(999);
        noon.setRule(1);
        check.same("band", noon.band(), 999);
        check.same("rule", noon.rule(), 1);
        Check.load(noon, "market 9 999 7 share;pass 3;");
        check.same("minute", noon.minute(), 3);
        check.same("lastPrice", noon.lastPrice(), 999);
        check.same("band", noon.band(), 7);
        check.same("rule", noon.rule(), 1);
    }

    private static void promise11() {
        NoonCry noon = Check.loaded("market 4 1 0 time;");
        int[] due = {4, 3, 2, 1, 4, 3};
        for (int minute = 0; minute < due.length; minute++) {
            check.same("minutesToCry", noon.minutesToCry(), due[minute]);
            noon.pass(1);
        }
        check.same("period 1", Check.loaded("market 1 1 0 time;pass 7;").minutesToCry(), 1);
        check.same("period 60", Check.loaded("market 60 1 0 time;pass 60;").minutesToCry(), 60);
        check.same("a new period", Check.loaded("market 60 1 0 time;pass 7;period 5;").minutesToCry(), 3);
    }

    private static void promise12() {
        check.same("traderCount", new NoonCry().traderCount(), 4);
        check.same("none", Check.loaded("market 1 1 0 time;").traderCount(), 0);
        check.same("one", Check.loaded("market 1 1 0 time;trader a 0 0;").traderCount(), 1);
    }

    private static void promises13And14() {
        NoonCry noon = new NoonCry();
        int[] coins = {1584, 2376, 1020, 1420};
        int[] goods = {18, 12, 30, 15};
        for (int trader = 0; trader < 4; trader++) {
            check.same("coinsOf", noon.coinsOf(trader), coins[trader]);
            check.same("goodsOf", noon.goodsOf(trader), goods[trader]);
        }
        for (int trader : NO_TRADERS) {
            check.fails("coinsOf", IndexOutOfBoundsException.class, () -> noon.coinsOf(trader));
            check.fails("goodsOf", IndexOutOfBoundsException.class, () -> noon.goodsOf(trader));
        }
        noon.cry();
        check.same("coins behind a cry", noon.coinsOf(1), 2376 - 208);
        check.same("goods behind a cry", noon.goodsOf(1), 16);
        check.same("coins of the seller", noon.coinsOf(3), 1420 + 208);
        check.same("goods of the seller", noon.goodsOf(3), 11);
        NoonCry none = Check.loaded("market 1 1 0 time;");
        check.fails("coinsOf 0", IndexOutOfBoundsException.class, () -> none.coinsOf(0));
        check.fails("goodsOf 0", IndexOutOfBoundsException.class, () -> none.goodsOf(0));
    }

    private static void promises15And16() {
        NoonCry noon = new NoonCry();
        int[] coins = {1584, 2376 - 212, 1020, 1420 - 250};
        int[] goods = {18, 12, 24, 5};
        for (int trader = 0; trader < 4; trader++) {
            check.same("freeCoins", noon.freeCoins(trader), coins[trader]);
            check.same("freeGoods", noon.freeGoods(trader), goods[trader]);
        }
        for (int trader : NO_TRADERS) {
            check.fails("freeCoins", IndexOutOfBoundsException.class, () -> noon.freeCoins(trader));
            check.fails("freeGoods", IndexOutOfBoundsException.class, () -> noon.freeGoods(trader));
        }
        noon.cry();
        check.same("what was held beyond the price is free", noon.freeCoins(1), 2376 - 208);
        check.same("the rest is still held", noon.freeGoods(3), 5);
        noon.withdraw(5);
        check.same("free coins after withdraw", noon.freeCoins(3), 1420 + 208);
        noon.withdraw(7);
        check.same("free goods after withdraw", noon.freeGoods(3), 10);
    }

    private static void promises17And18() {
        NoonCry noon = first();
        check.same("orderCount", noon.orderCount(), 4);
        int[] orders = {3, 4, 6, 7};
        for (int index = 0; index < 4; index++) {
            check.same("orderAt", noon.orderAt(index), orders[index]);
        }
        for (int index : new int[] {-1, 4, 5, 20, Integer.MIN_VALUE, Integer.MAX_VALUE}) {
            check.fails("orderAt", IndexOutOfBoundsException.class, () -> noon.orderAt(index));
        }
        NoonCry none = Check.loaded("market 1 1 0 time;");
        check.same("orderCount", none.orderCount(), 0);
        check.fails("orderAt 0", IndexOutOfBoundsException.class, () -> none.orderAt(0));
    }

    private static void promises19To22() {
        NoonCry noon = first();
        int[][] due = {{3, 3, 1, 52, 5}, {4, 2, 1, 58, 6}, {6, 1, 0, 53, 4}, {7, 3, 1, 53, 5}};
        for (int[] row : due) {
            check.same("traderOf", noon.traderOf(row[0]), row[1]);
            check.same("sideOf", noon.sideOf(row[0]), row[2]);
            check.same("limitOf", noon.limitOf(row[0]), row[3]);
            check.same("quantityOf", noon.quantityOf(row[0]), row[4]);
        }
        for (int order : NO_ORDERS) {
            check.fails("traderOf", NoSuchElementException.class, () -> noon.traderOf(order));
            check.fails("sideOf", NoSuchElementException.class, () -> noon.sideOf(order));
            check.fails("limitOf", NoSuchElementException.class, () -> noon.limitOf(order));
            check.fails("quantityOf", NoSuchElementException.class, () -> noon.quantityOf(order));
            check.fails("minutesLeft", NoSuchElementException.class, () -> noon.minutesLeft(order));
            check.fails("rankOf", NoSuchElementException.class, () -> noon.rankOf(order));
        }
        noon.cry();
        check.same("the rest of an order", noon.quantityOf(3), 1);
        check.fails("an order that was filled", NoSuchElementException.class, () -> noon.quantityOf(6));
    }

    private static void promise23() {
        NoonCry noon = first();
        check.same("minutesLeft", noon.minutesLeft(3), 5);
        check.same("minutesLeft", noon.minutesLeft(6), 21);
        noon.setBand(1);
        noon.place(0, 1, 999, 1, 0);
        check.same("minutesLeft of 0 minutes", noon.minutesLeft(8), 1);
        noon.place(0, 1, 999, 1, 999);
        check.same("minutesLeft of 999 minutes", noon.minutesLeft(9), 1000);
        noon.pass(1);
        check.fails("gone", NoSuchElementException.class, () -> noon.minutesLeft(8));
        check.same("minutesLeft", noon.minutesLeft(9), 999);
        check.same("minutesLeft", noon.minutesLeft(3), 4);
    }

    private static void promise24() {
        NoonCry noon = Check.loaded("market 1 1 0 share;trader a 9999 99;bid a 5 1 9;offer a 7 1 9;bid a 6 1 9;"
            + "offer a 7 1 9;bid a 5 1 9;offer a 6 1 9;bid a 6 1 9;offer a 9 1 9;");
        int[] due = {2, 1, 0, 2, 3, 0, 1, 3};
        for (int order = 0; order < due.length; order++) {
            check.same("rankOf", noon.rankOf(order), due[order]);
        }
        noon.withdraw(2);
        noon.withdraw(5);
        check.same("rankOf", noon.rankOf(6), 0);
        check.same("rankOf", noon.rankOf(4), 2);
        check.same("rankOf", noon.rankOf(1), 0);
    }
}
