import java.util.NoSuchElementException;

/** Promises 54 to 65: the changes, what is saved and undone, and the output text. */
public final class ChangeTest {
    private static final Check check = new Check("ChangeTest");

    public static void main(String[] args) {
        promise54();
        refusedPlaces();
        promise55();
        promise56();
        promise57();
        promise58();
        promise59();
        promise60();
        theOrderInAMinute();
        fullBooks();
        promise61();
        promise62();
        promise63();
        everyChangeIsUndone();
        failuresChangeNothing();
        promise64();
        promise65();
        check.finish();
    }

    private static void promise54() {
        NoonCry noon = new NoonCry();
        check.same("place", noon.place(0, 0, 10, 7, 3), 8);
        check.same("trader", noon.traderOf(8), 0);
        check.same("side", noon.sideOf(8), 0);
        check.same("limit", noon.limitOf(8), 10);
        check.same("quantity", noon.quantityOf(8), 7);
        check.same("minutes", noon.minutesLeft(8), 4);
        check.same("free coins", noon.freeCoins(0), 1514);
        check.same("all coins", noon.coinsOf(0), 1584);
        check.same("place", noon.place(3, 1, 999, 5, 999), 9);
        check.same("free goods", noon.freeGoods(3), 0);
        noon.withdraw(9);
        check.same("a number is not given twice", noon.place(3, 1, 1, 1, 0), 10);
        check.same("undone places give their number again", noon.undo() + noon.place(3, 1, 1, 1, 0), 13);
        NoonCry most = Check.loaded("market 1 1 0 time;trader a 99 0;");
        for (int order = 0; order < 20; order++) {
            check.same("place", most.place(0, 0, 1, 1, 9), order);
        }
        check.fails("a 21st order", IllegalStateException.class, () -> most.place(0, 0, 1, 1, 9));
    }

    private static void refusedPlaces() {
        NoonCry noon = new NoonCry();
        for (int trader : new int[] {-1, 4, Integer.MIN_VALUE, Integer.MAX_VALUE}) {
            check.fails("place", IndexOutOfBoundsException.class, () -> noon.place(trader, 0, 1, 1, 1));
        }
        for (int minutes : new int[] {-1, 1000, Integer.MIN_VALUE, Integer.MAX_VALUE}) {
            check.fails("place", IllegalArgumentException.class, () -> noon.place(0, 0, 1, 1, minutes));
            check.fails("place refused", IllegalArgumentException.class, () -> noon.place(0, 0, 999, 99, minutes));
        }
        check.fails("coins", IllegalStateException.class, () -> noon.place(0, 0, 99, 17, 1));
        check.same("just the coins", noon.place(0, 0, 99, 16, 1), 8);
        check.fails("no coins left", IllegalStateException.class, () -> noon.place(0, 0, 1, 1, 1));
        check.fails("goods", IllegalStateException.class, () -> noon.place(1, 1, 1, 13, 1));
        check.same("just the goods", noon.place(1, 1, 1, 12, 1), 9);
        check.fails("no goods left", IllegalStateException.class, () -> noon.place(1, 1, 1, 1, 1));
    }

    private static void promise55() {
        NoonCry noon = new NoonCry();
        check.same("withdraw", noon.withdraw(4), 6);
        check.same("free goods", noon.freeGoods(2), 30);
        check.same("orderCount", noon.orderCount(), 4);
        check.same("lateOrders", noon.lateOrders(), 0);
        for (int order : new int[] {4, 0, -1, 8, Integer.MIN_VALUE, Integer.MAX_VALUE}) {
            check.fails("withdraw", NoSuchElementException.class, () -> noon.withdraw(order));
        }
        noon.cry();
        check.same("the rest of an order", noon.withdraw(3), 1);
        check.same("the other orders stay", noon.orderAt(0), 5);
        check.same("the other orders stay", noon.orderAt(1), 7);
    }

    private static void promise56() {
        NoonCry noon = new NoonCry();
        check.same("setRule", noon.setRule(1), 0);
        check.same("setRule", noon.setRule(1), 1);
        check.same("rule", noon.rule(), 1);
        check.same("setRule", noon.setRule(0), 1);
        check.same("rule", noon.rule(), 0);
        for (int rule : new int[] {-1, 2, Integer.MIN_VALUE, Integer.MAX_VALUE}) {
            check.fails("setRule", IllegalArgumentException.class, () -> noon.setRule(rule));
        }
        check.same("three changes", noon.undo(), 2);
        check.same("rule", noon.rule(), 1);
    }

    private static void promise57() {
        NoonCry noon = new NoonCry();
        check.same("setBand", noon.setBand(999), 20);
        check.same("setBand", noon.setBand(0), 999);
        check.same("band", noon.band(), 0);
        for (int band : new int[] {-1, 1000, Integer.MIN_VALUE, Integer.MAX_VALUE}) {
            check.fails("setBand", IllegalArgumentException.class, () -> noon.setBand(band));
        }
        check.same("two changes", noon.undo(), 1);
        check.same("band", noon.band(), 999);
    }

    private static void promise58() {
        NoonCry noon = new NoonCry();
        check.same("pay", noon.pay(2, 1), 1021);
        check.same("pay", noon.pay(2, 99999), 101020);
        check.same("free", noon.freeCoins(2), 101020);
        for (int trader : new int[] {-1, 4, Integer.MIN_VALUE, Integer.MAX_VALUE}) {
            check.fails("pay", IndexOutOfBoundsException.class, () -> noon.pay(trader, 0));
        }
        for (int coins : new int[] {0, -1, 100000, Integer.MIN_VALUE, Integer.MAX_VALUE}) {
            check.fails("pay", IllegalArgumentException.class, () -> noon.pay(0, coins));
        }
        NoonCry rich = Check.loaded("market 5 1 0 time;trader a 999990 9;trader b 999999 0;");
        check.fails("pay", IllegalStateException.class, () -> rich.pay(0, 10));
        check.fails("pay", IllegalArgumentException.class, () -> rich.pay(0, 100000));
        check.same("pay", rich.pay(0, 9), 999999);
        check.fails("pay", IllegalStateException.class, () -> rich.pay(0, 1));
        rich.place(0, 1, 9, 9, 1);
        rich.place(1, 0, 9, 9, 1);
        rich.cry();
        check.same("more by trades", rich.coinsOf(0), 1000080);
        check.fails("pay", IllegalStateException.class, () -> rich.pay(0, 1));
        check.same("pay", rich.pay(1, 81), 999999);
    }

    private static void promise59() {
        NoonCry noon = new NoonCry();
        check.same("cry", noon.cry(), 4);
        check.same("no price", noon.cry(), 0);
        check.same("it is a change too", noon.undo(), 1);
        check.same("minute", noon.minute(), 5);
        check.same("lastPrice", noon.lastPrice(), 52);
        noon = Check.loaded("market 5 50 3 time;trader a 999 20;trader b 999 20;bid a 44 2 9;offer b 40 5 9;");
        check.same("stopped", noon.cry(), 0);
        check.same("down by the band", noon.lastPrice(), 47);
        check.same("nobody trades", noon.quantityOf(0), 2);
        check.same("just the band", noon.cry(), 2);
        check.same("lastPrice", noon.lastPrice(), 44);
        check.same("a buyer pays", noon.coinsOf(0), 999 - 88);
        check.same("a seller gets it", noon.coinsOf(1), 999 + 88);
        check.same("goods", noon.goodsOf(0), 22);
        check.same("goods", noon.goodsOf(1), 18);
        check.same("the rest", noon.quantityOf(1), 3);
        check.same("held", noon.freeGoods(1), 15);
        NoonCry self = Check.loaded("market 5 50 0 share;trader a 999 20;bid a 60 9 9;offer a 40 5 9;");
        check.same("with oneself", self.cry(), 5);
        check.same("coins", self.coinsOf(0), 999);
        check.same("goods", self.goodsOf(0), 20);
        check.same("free", self.freeCoins(0), 999 - 240);
    }

    private static void promise60() {
        NoonCry noon = Check.loaded("market 3 50 0 time;trader a 9999 50;bid a 50 9 20;offer a 50 4 20;pass 1;");
        for (int minutes : new int[] {0, -1, 301, Integer.MIN_VALUE, Integer.MAX_VALUE}) {
            check.fails("pass", IllegalArgumentException.class, () -> noon.pass(minutes));
        }
        check.same("before the cry", noon.pass(1), 0);
        check.same("the cry", noon.pass(1), 4);
        noon.place(0, 1, 50, 2, 9);
        check.same("over more cries", noon.pass(300), 2);
        check.same("minute", noon.minute(), 303);
        check.same("late", noon.lateOrders(), 1);
        check.same("undo", noon.undo(), 4);
        check.same("minute", noon.minute(), 3);
        check.same("orders", noon.orderCount(), 2);
    }

    private static void theOrderInAMinute() {
        NoonCry noon = Check.loaded("market 1 50 0 time;trader a 9999 50;bid a 50 9 0;offer a 50 4 20;");
        check.same("late orders go before the cry", noon.pass(1), 0);
        check.same("late", noon.lateOrders(), 1);
        noon = Check.loaded("market 1 50 0 time;trader a 9999 50;bid a 50 9 1;offer a 50 4 20;");
        check.same("the last minute still counts", noon.pass(1), 4);
        check.same("late", noon.lateOrders(), 0);
    }

    private static void fullBooks() {
        String full = "market 9 5 0 time;trader a 99 99;" + "bid a 5 1 9;".repeat(10) + "offer a 5 1 0;".repeat(10);
        check.same("all trade", Check.loaded(full).cry(), 10);
        NoonCry noon = Check.loaded(full);
        noon.pass(1);
        check.same("ten are late", noon.orderCount(), 10);
        check.same("the others stay", noon.orderAt(9), 9);
        check.same("cleared", Check.loaded(full + "clear a;").orderCount(), 0);
        noon = Check.loaded(full);
        check.same("the last order", noon.withdraw(19), 1);
        check.same("the first order", noon.withdraw(0), 1);
        check.same("the second order is the first now", noon.orderAt(0), 1);
        check.same("eighteen orders", noon.orderAt(17), 18);
    }

    private static void promise61() {
        NoonCry noon = new NoonCry();
        for (int slot : new int[] {-1, 2, Integer.MIN_VALUE, Integer.MAX_VALUE}) {
            check.fails("save", IndexOutOfBoundsException.class, () -> noon.save(slot));
        }
        check.same("save", noon.save(1), 5);
        check.fails("save is no change", IllegalStateException.class, noon::undo);
        check.fails("the other slot", IllegalStateException.class, () -> noon.restore(0));
        noon.pass(2);
        check.same("save", noon.save(0), 7);
        noon.setBand(3);
        check.same("saved again", noon.save(1), 7);
        noon.pass(9);
        check.same("restore", noon.restore(1), 7);
        check.same("band", noon.band(), 3);
        noon.restore(0);
        check.same("band", noon.band(), 20);
    }

    private static void promise62() {
        NoonCry noon = new NoonCry();
        for (int slot : new int[] {-1, 2, Integer.MIN_VALUE, Integer.MAX_VALUE}) {
            check.fails("restore", IndexOutOfBoundsException.class, () -> noon.restore(slot));
        }
        check.fails("restore", IllegalStateException.class, () -> noon.restore(0));
        check.fails("restore", IllegalStateException.class, () -> noon.restore(1));
        String first = Check.state(noon);
        noon.save(0);
        noon.cry();
        noon.pay(0, 5);
        Check.load(noon, "market 1 1 0 share;trader x 1 1;pass 8;");
        String second = Check.state(noon);
        check.same("restore", noon.restore(0), 5);
        check.sameText("restored", Check.state(noon), first);
        check.same("names too", noon.printSide(0), 17);
        check.sameText("names too", Check.output(noon, 17), "ben@53x4 dot@50x5");
        check.same("the next number", noon.place(0, 0, 1, 1, 1), 8);
        check.same("undo the place", noon.undo(), 4);
        check.same("undo the restore", noon.undo(), 3);
        check.sameText("before it", Check.state(noon), second);
        check.same("earlier changes", noon.undo(), 2);
        check.same("earlier changes", noon.undo(), 1);
        check.same("the slot keeps it", noon.restore(0), 5);
        noon.cry();
        noon.withdraw(7);
        noon.restore(0);
        check.sameText("unchanged in the slot", Check.state(noon), first);
    }

    private static void promise63() {
        NoonCry noon = new NoonCry();
        check.fails("undo", IllegalStateException.class, noon::undo);
        for (int band = 1; band <= 8; band++) {
            noon.setBand(band);
        }
        for (int left = 5; left >= 0; left--) {
            check.same("undo", noon.undo(), left);
            check.same("band", noon.band(), left + 2);
        }
        check.fails("undo", IllegalStateException.class, noon::undo);
        noon.setBand(30);
        noon.setBand(31);
        check.same("undo", noon.undo(), 1);
        noon.setBand(32);
        check.same("undo", noon.undo(), 1);
        check.same("band", noon.band(), 30);
        check.same("undo", noon.undo(), 0);
        check.same("band", noon.band(), 2);
    }

    private static NoonCry changed(int changes) {
        NoonCry noon = new NoonCry();
        for (int change = 0; change < changes; change++) {
            change(noon, change);
        }
        return noon;
    }

    private static void everyChangeIsUndone() {
        for (int changes = 1; changes <= 10; changes++) {
            for (int undone = 1; undone <= Math.min(6, changes); undone++) {
                NoonCry noon = changed(changes);
                for (int left = 1; left <= undone; left++) {
                    check.same("undo of " + changes, noon.undo(), Math.min(6, changes) - left);
                }
                check.sameText("undone " + undone + " of " + changes, Check.state(noon), Check.state(changed(changes - undone)));
            }
        }
        NoonCry noon = changed(10);
        for (int left = 5; left >= 0; left--) {
            noon.undo();
        }
        check.fails("only six", IllegalStateException.class, noon::undo);
    }

    private static void change(NoonCry noon, int which) {
        switch (which) {
            case 0: case 1: noon.setRule(which); break;
            case 2: noon.save(0); noon.setBand(7); break;
            case 3: noon.pay(3, 77); break;
            case 4: noon.place(0, 1, 40, 9, 3); break;
            case 5: noon.cry(); break;
            case 6: noon.pass(9); break;
            case 7: noon.withdraw(noon.orderAt(0)); break;
            case 8: Check.load(noon, "market 2 9 9 share;trader q 7 7;bid q 1 1 1;pass 1;"); break;
            default: noon.restore(0); break;
        }
    }

    private static void failuresChangeNothing() {
        NoonCry noon = new NoonCry();
        noon.setBand(5);
        String before = Check.state(noon);
        Check.answer(() -> noon.place(0, 0, 999, 99, 1));
        Check.answer(() -> noon.place(9, 0, 9, 9, 1));
        Check.answer(() -> noon.place(0, 0, 9, 9, -1));
        Check.answer(() -> noon.withdraw(99));
        Check.answer(() -> noon.setRule(2));
        Check.answer(() -> noon.setBand(-1));
        Check.answer(() -> noon.pay(0, 0));
        Check.answer(() -> noon.pass(0));
        Check.answer(() -> noon.restore(0));
        Check.answer(() -> noon.restore(9));
        Check.answer(() -> noon.save(9));
        Check.answer(() -> Check.load(noon, "market 1 1 1 luck;"));
        check.sameText("state", Check.state(noon), before);
        check.same("one change", noon.undo(), 0);
        check.same("band", noon.band(), 20);
    }

    private static void promise64() {
        NoonCry noon = new NoonCry();
        check.same("printSide", noon.printSide(1), 26);
        check.sameText("output", Check.output(noon, 26), "dot@52x5 dot@53x5 cal@58x6");
        for (int side : new int[] {-1, 2, Integer.MIN_VALUE, Integer.MAX_VALUE}) {
            check.fails("printSide", IllegalArgumentException.class, () -> noon.printSide(side));
        }
        check.sameText("the output stays", Check.output(noon, 26), "dot@52x5 dot@53x5 cal@58x6");
        noon.withdraw(5);
        noon.withdraw(6);
        check.same("none", noon.printSide(0), 1);
        check.sameText("none", Check.output(noon, 1), "-");
        noon.undo();
        check.sameText("undo leaves the output", Check.output(noon, 1), "-");
        StringBuilder text = new StringBuilder("market 1 1 0 time;trader abcd 999999 0;trader z 9 9;");
        StringBuilder due = new StringBuilder();
        for (int order = 0; order < 20; order++) {
            text.append("bid abcd 999 10 9;");
            due.append(order == 0 ? "" : " ").append("abcd@999x10");
        }
        NoonCry full = Check.loaded(text.toString());
        check.same("the longest text", full.printSide(0), 239);
        check.sameText("the longest text", Check.output(full, 239), due.toString());
        check.same("none", full.printSide(1), 1);
        full = Check.loaded("market 1 1 0 time;trader ab 99999 200;offer ab 100 9 9;offer ab 99 10 9;offer ab 9 99 9;offer ab 99 1 9;");
        check.same("numbers", full.printSide(1), 33);
        check.sameText("numbers", Check.output(full, 33), "ab@9x99 ab@99x10 ab@99x1 ab@100x9");
    }

    private static void promise65() {
        NoonCry noon = new NoonCry();
        check.fails("outputByte", NoSuchElementException.class, () -> noon.outputByte(0));
        noon.printSide(0);
        check.same("outputByte", noon.outputByte(0), 'b');
        check.same("outputByte", noon.outputByte(16), '5');
        for (int index : new int[] {-1, 17, 238, 239, Integer.MIN_VALUE, Integer.MAX_VALUE}) {
            check.fails("outputByte", NoSuchElementException.class, () -> noon.outputByte(index));
        }
        noon.withdraw(5);
        noon.withdraw(6);
        noon.printSide(0);
        check.fails("the former content is gone", NoSuchElementException.class, () -> noon.outputByte(1));
    }
}
