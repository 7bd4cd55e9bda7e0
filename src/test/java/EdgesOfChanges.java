/** The boundaries of promises 54 to 62: place, withdraw, setRule, setBand, pay, cry, pass, save and restore. */
final class EdgesOfChanges {
    private static final String NOBODY = "market 60 50 0 time;";

    private final Edges edges;
    private final Check check;

    EdgesOfChanges(Edges edges) {
        this.edges = edges;
        check = edges.check;
    }

    void run() {
        placeRanges();
        placeAndReasons();
        placeAnswersTheNumber();
        withdraw();
        setRule();
        setBand();
        payRanges();
        payToTheMost();
        cry();
        passRanges();
        passAnswersThePieces();
        saveSlots();
        saveReplaces();
        restoreSlots();
        restoreBringsAllBack();
        restoreIsAChange();
    }

    private void placeRanges() {
        check.promise(54, "throws IndexOutOfBoundsException if there is no such trader");
        Edges.CallWith byTrader = (noon, value) -> noon.place(value, 0, 5, 5, 5);
        edges.inside("place of the trader", 0, 3, byTrader, 9, 9);
        edges.outside("place of the trader", Edges.INDEX, 0, 3, byTrader);
        edges.refused("place of nobody", Edges.INDEX, () -> Check.loaded(NOBODY), noon -> noon.place(0, 0, 1, 1, 1));
        Edges.CallWith[] calls = {(noon, value) -> noon.place(0, value, 5, 5, 5), (noon, value) -> noon.place(0, 0, value, 1, 5),
            (noon, value) -> noon.place(0, 0, 5, value, 5), (noon, value) -> noon.place(0, 0, 5, 5, value)};
        String[] names = {"side", "limit", "quantity", "minutes"};
        int[][] ranges = {{0, 1}, {1, 999}, {1, 99}, {0, 999}};
        for (int each = 0; each < calls.length; each++) {
            check.promise(54, "throws IllegalArgumentException if " + names[each] + " is out of range");
            edges.inside(names[each], ranges[each][0], ranges[each][1], calls[each], 9, 9);
            edges.outside(names[each], Edges.ARGUMENT, ranges[each][0], ranges[each][1], calls[each]);
        }
        check.promise(54, "the first exception that applies");
        check.fails("no trader", Edges.INDEX, () -> new NoonCry().place(4, 2, 0, 0, -1));
        check.fails("no range", Edges.ARGUMENT, () -> new NoonCry().place(0, 0, 999, 99, 1000));
        check.fails("refused", Edges.STATE, () -> new NoonCry().place(0, 0, 999, 99, 999));
    }

    private static NoonCry full() {
        NoonCry noon = Check.loaded(Edges.RICH + "bid a 1 1 9;".repeat(19));
        noon.place(0, 1, 2, 1, 9);
        return noon;
    }

    private void placeAndReasons() {
        check.promise(54, "throws IllegalStateException if the order is refused");
        edges.refused("a 21st bid", Edges.STATE, EdgesOfChanges::full, noon -> noon.place(0, 0, 1, 1, 1));
        edges.refused("a 21st offer", Edges.STATE, EdgesOfChanges::full, noon -> noon.place(0, 1, 1, 1, 1));
        check.same("the 20th", full().orderCount(), 20);
        edges.refused("a coin too much", Edges.STATE, noon -> noon.place(0, 0, 317, 5, 1));
        edges.refused("a piece too much", Edges.STATE, noon -> noon.place(0, 1, 1, 16, 1));
        edges.refused("coins that are held", Edges.STATE, noon -> noon.place(3, 0, 13, 91, 1));
        edges.refused("goods that are held", Edges.STATE, noon -> noon.place(3, 1, 1, 6, 1));
        NoonCry noon = Edges.busy();
        check.same("just the coins", noon.place(0, 0, 99, 16, 1), 9);
        check.same("free", noon.freeCoins(0), 0);
        check.same("just the goods", noon.place(0, 1, 999, 15, 1), 10);
        check.same("free", noon.freeGoods(0), 0);
        check.fails("no coin is left", Edges.STATE, () -> noon.place(0, 0, 1, 1, 1));
        check.fails("no piece is left", Edges.STATE, () -> noon.place(0, 1, 1, 1, 1));
        check.same("just the free coins", noon.place(3, 0, 13, 90, 1), 11);
        check.same("just the free goods", noon.place(3, 1, 1, 5, 1), 12);
    }

    private void placeAnswersTheNumber() {
        check.promise(54, "returns the number of the order");
        NoonCry noon = Check.loaded(Edges.RICH);
        check.same("the first", noon.place(0, 0, 1, 99, 0), 0);
        check.same("the second", noon.place(0, 1, 999, 1, 999), 1);
        check.same("trader", noon.traderOf(1), 0);
        check.same("side", noon.sideOf(0) * 10 + noon.sideOf(1), 1);
        check.same("limits", noon.limitOf(0) * 1000 + noon.limitOf(1), 1999);
        check.same("quantities", noon.quantityOf(0) * 100 + noon.quantityOf(1), 9901);
        check.same("its last minute is the minute number", noon.minutesLeft(0), 1);
        check.same("its last minute is the minute number plus 999", noon.minutesLeft(1), 1000);
        noon.undo();
        check.same("undo brings the number back", noon.place(0, 1, 999, 1, 999), 1);
    }

    private void withdraw() {
        check.promise(55, "returns its quantity");
        NoonCry noon = Check.loaded(Edges.RICH + "bid a 9 1 9;bid a 9 99 9;offer a 9 98 9;");
        check.same("1", noon.withdraw(0), 1);
        noon.cry();
        check.same("what is left of it", noon.withdraw(1), 1);
        check.same("no order", noon.orderCount(), 0);
        for (int order = -1; order <= 3; order++) {
            int gone = order;
            check.fails("withdraw " + order, Edges.ELEMENT, () -> noon.withdraw(gone));
        }
        check.promise(55, "the first, the last and one between of 20");
        String text = Edges.RICH + "bid a 9 1 9;".repeat(10) + "offer a 90 2 9;".repeat(10);
        for (int order : new int[] {0, 9, 10, 19}) {
            NoonCry twenty = Check.loaded(text);
            check.same("withdraw " + order, twenty.withdraw(order), order < 10 ? 1 : 2);
            for (int index = 0; index < 19; index++) {
                int due = index < order ? index : index + 1;
                check.same("the others stay", twenty.orderAt(index), due);
                check.same("with their sides", twenty.sideOf(due), due < 10 ? 0 : 1);
            }
        }
        check.promise(55, "it is no late order, and nothing is traded");
        NoonCry counts = Check.loaded(text);
        counts.withdraw(0);
        check.same("late", counts.lateOrders(), 0);
        check.same("traded", counts.tradedPieces(), 0);
    }

    private void setRule() {
        check.promise(56, "throws IllegalArgumentException if rule is not 0 or 1");
        edges.inside("setRule", 0, 1, NoonCry::setRule, 1, 1);
        edges.outside("setRule", Edges.ARGUMENT, 0, 1, NoonCry::setRule);
        check.promise(56, "returns the former rule");
        NoonCry noon = Check.loaded(NOBODY);
        int[] rules = {0, 1, 1, 0, 0};
        int former = 0;
        for (int rule : rules) {
            check.same("setRule " + rule, noon.setRule(rule), former);
            check.same("rule", noon.rule(), rule);
            former = rule;
        }
        check.same("five changes", noon.undo(), 5);
        NoonCry shared = Check.loaded(Edges.RICH + "bid a 9 2 9;bid a 9 2 9;offer a 9 2 9;");
        check.same("by time", shared.fillOf(1), 0);
        shared.setRule(1);
        check.same("by share", shared.fillOf(1), 1);
    }

    private void setBand() {
        check.promise(57, "throws IllegalArgumentException if band is out of range");
        edges.inside("setBand", 0, 999, NoonCry::setBand, 7, 7);
        edges.outside("setBand", Edges.ARGUMENT, 0, 999, NoonCry::setBand);
        check.promise(57, "returns the former band");
        NoonCry noon = Check.loaded(NOBODY);
        int former = 0;
        for (int band : new int[] {0, 999, 999, 1, 998}) {
            check.same("setBand " + band, noon.setBand(band), former);
            check.same("band", noon.band(), band);
            former = band;
        }
        check.same("five changes", noon.undo(), 5);
        check.same("band", noon.band(), 1);
    }

    private void payRanges() {
        check.promise(58, "throws IndexOutOfBoundsException if there is no such trader");
        Edges.CallWith byTrader = (noon, value) -> noon.pay(value, 1);
        edges.inside("pay of the trader", 0, 3, byTrader, 1585, 1421);
        edges.outside("pay of the trader", Edges.INDEX, 0, 3, byTrader);
        edges.refused("pay of nobody", Edges.INDEX, () -> Check.loaded(NOBODY), noon -> noon.pay(0, 1));
        check.promise(58, "coins: 1 to 99999, throws IllegalArgumentException if they are out of range");
        Edges.CallWith byCoins = (noon, value) -> noon.pay(2, value);
        edges.inside("pay", 1, 99999, byCoins, 1026, 101024);
        edges.outside("pay", Edges.ARGUMENT, 1, 99999, byCoins);
        check.promise(58, "the first exception that applies");
        NoonCry rich = Check.loaded(Edges.RICH);
        check.fails("no trader", Edges.INDEX, () -> rich.pay(1, 100000));
        check.fails("no range", Edges.ARGUMENT, () -> rich.pay(0, 100000));
        check.fails("too many", Edges.STATE, () -> rich.pay(0, 99999));
    }

    private static NoonCry paid(int coins) {
        NoonCry noon = Check.loaded("market 60 50 0 time;trader a " + coins + " 9;trader b 999999 9;bid a 9 1 9;");
        noon.setBand(4);
        return noon;
    }

    private void payToTheMost() {
        check.promise(58, "throws IllegalStateException if they would be more than 999999");
        for (int coins : new int[] {1, 2, 500, 99998, 99999}) {
            check.same("just to 999999", paid(999999 - coins).pay(0, coins), 999999);
            edges.refused("one more than 999999", Edges.STATE, () -> paid(1000000 - coins), noon -> noon.pay(0, coins));
        }
        edges.refused("at 999999", Edges.STATE, () -> paid(999999), noon -> noon.pay(0, 1));
        NoonCry above = paid(99);
        above.setBand(0);
        above.place(1, 1, 9, 1, 9);
        above.cry();
        check.same("more than 999999 by a trade", above.coinsOf(1), 1000008);
        check.fails("still more", Edges.STATE, () -> above.pay(1, 1));
        check.promise(58, "held coins count too, and what is paid is free");
        NoonCry held = paid(999998);
        check.same("free", held.freeCoins(0), 999989);
        check.fails("two coins", Edges.STATE, () -> held.pay(0, 2));
        check.same("one coin", held.pay(0, 1), 999999);
        check.same("free", held.freeCoins(0), 999990);
    }

    private void cry() {
        check.promise(59, "returns the number of pieces that are traded");
        check.same("no order", Check.loaded(NOBODY).cry(), 0);
        check.same("no price", Check.loaded(Edges.RICH + "bid a 8 9 9;offer a 9 9 9;").cry(), 0);
        check.same("stopped", Check.loaded(Edges.RICH + "band 1;bid a 9 9 9;offer a 9 9 9;").cry(), 0);
        check.same("one piece", Check.loaded(Edges.RICH + "bid a 9 9 9;offer a 9 1 9;").cry(), 1);
        check.same("the most", Check.loaded(Edges.RICH + "bid a 9 99 9;".repeat(10) + "offer a 9 99 9;".repeat(10)).cry(), 990);
        check.promise(59, "at once, in no minute");
        NoonCry noon = Check.loaded("market 7 50 0 time;trader a 99 9;bid a 9 2 0;offer a 9 1 0;");
        check.same("cry", noon.cry(), 1);
        check.same("minute", noon.minute(), 0);
        check.same("nothing is late", noon.lateOrders(), 0);
        check.same("minutes to the next", noon.minutesToCry(), 7);
        check.same("the second cry", noon.cry(), 0);
        check.promise(59, "20 orders that all go");
        NoonCry twenty = Check.loaded(Edges.RICH + "bid a 9 3 9;".repeat(10) + "offer a 9 3 9;".repeat(10));
        check.same("cry", twenty.cry(), 30);
        check.same("orders", twenty.orderCount(), 0);
        check.same("the next one", twenty.place(0, 0, 1, 1, 1), 20);
    }

    private void passRanges() {
        check.promise(60, "minutes: 1 to 300, throws IllegalArgumentException if they are out of range");
        edges.inside("pass", 1, 300, NoonCry::pass, 0, 4);
        edges.outside("pass", Edges.ARGUMENT, 1, 300, NoonCry::pass);
        check.same("a minute", passed(1), 1);
        check.same("300 minutes", passed(300), 300);
    }

    private static int passed(int minutes) {
        NoonCry noon = Check.loaded(NOBODY);
        noon.pass(minutes);
        return noon.minute();
    }

    private void passAnswersThePieces() {
        check.promise(60, "returns the number of pieces that are traded in these minutes");
        NoonCry noon = Check.loaded("market 3 50 3 time;trader a 9999 99;bid a 60 9 99;offer a 60 4 99;");
        int[] due = {0, 0, 0, 0, 0, 0, 0, 0, 0, 0, 0, 4};
        for (int minute = 1; minute <= due.length; minute++) {
            check.same("the minute " + minute, noon.pass(1), due[minute - 1]);
        }
        check.same("what was traded before does not count", noon.pass(300), 0);
        check.same("the stopped cries", noon.stoppedCries(), 3);
        NoonCry once = Check.loaded("market 3 50 3 time;trader a 9999 99;bid a 60 9 99;offer a 60 4 99;");
        check.same("11 minutes", once.pass(11), 0);
        once.undo();
        check.same("12 minutes", once.pass(12), 4);
        check.same("the state before the cry", Check.loaded(NOBODY + "period 1;").pass(300), 0);
        NoonCry early = Check.loaded("market 60 50 0 time;trader a 9999 99;bid a 50 9 9;offer a 50 4 9;");
        early.cry();
        early.place(0, 1, 50, 2, 300);
        check.same("late before the cry", early.pass(60), 0);
        check.same("late", early.lateOrders(), 1);
    }

    private void saveSlots() {
        check.promise(61, "throws IndexOutOfBoundsException if there is no such slot");
        edges.inside("save", 0, 1, NoonCry::save, 5, 5);
        edges.outside("save", Edges.INDEX, 0, 1, NoonCry::save);
        check.promise(61, "returns the minute number");
        NoonCry noon = Check.loaded(NOBODY);
        check.same("0", noon.save(0), 0);
        noon.pass(300);
        check.same("300", noon.save(1), 300);
        check.same("the first slot", noon.restore(0), 0);
        check.same("the second slot", noon.restore(1), 300);
        check.promise(61, "each slot of its own, empty at first");
        NoonCry one = new NoonCry();
        one.save(1);
        check.fails("the slot 0", Edges.STATE, () -> one.restore(0));
        check.same("the slot 1", one.restore(1), 5);
        NoonCry other = new NoonCry();
        other.save(0);
        check.fails("the slot 1", Edges.STATE, () -> other.restore(1));
        check.same("the slot 0", other.restore(0), 5);
        check.promise(61, "it is no change");
        NoonCry none = new NoonCry();
        none.save(0);
        check.fails("undo", Edges.STATE, none::undo);
    }

    private void saveReplaces() {
        check.promise(61, "replaces what was saved there");
        NoonCry noon = new NoonCry();
        noon.save(0);
        noon.save(1);
        noon.setBand(1);
        noon.save(0);
        noon.setBand(2);
        noon.restore(1);
        check.same("the other slot keeps it", noon.band(), 20);
        noon.restore(0);
        check.same("the slot", noon.band(), 1);
        check.promise(61, "later calls leave what is saved");
        NoonCry later = Edges.busy();
        later.save(0);
        String saved = Check.state(later);
        later.cry();
        later.pass(300);
        later.pay(0, 1);
        later.undo();
        later.truncate(0);
        Check.load(later, NOBODY);
        later.restore(0);
        check.sameText("state", Check.state(later), saved);
    }

    private void restoreSlots() {
        check.promise(62, "throws IndexOutOfBoundsException if there is no such slot");
        edges.inside("restore", 0, 1, NoonCry::restore, 5, 5);
        edges.outside("restore", Edges.INDEX, 0, 1, NoonCry::restore);
        check.promise(62, "throws IllegalStateException if nothing is saved there");
        for (int slot = 0; slot < 2; slot++) {
            int empty = slot;
            edges.refused("restore " + slot, Edges.STATE, EdgesOfChanges::full, noon -> noon.restore(empty));
            NoonCry noon = full();
            noon.save(1 - slot);
            check.fails("the other slot is saved", Edges.STATE, () -> noon.restore(empty));
            check.same("it can be restored", noon.restore(1 - slot), 0);
        }
    }

    private void restoreBringsAllBack() {
        check.promise(62, "restores what was saved, returns the minute number afterwards");
        NoonCry noon = Edges.busy();
        noon.save(0);
        String saved = Check.state(noon);
        noon.truncate(0);
        Check.load(noon, "market 9 9 9 share;trader x 9 9;bid x 1 1 9;pass 77;");
        check.same("restore", noon.restore(0), 5);
        check.sameText("state", Check.state(noon), saved);
        check.same("the next number", noon.place(0, 0, 1, 1, 1), 9);
        check.same("names", noon.printSide(0), 25);
        check.sameText("names", Edges.wholeOutput(noon), "ben@53x4 dot@50x5 amy@1x1");
        check.promise(62, "the slot keeps it");
        for (int again = 0; again < 3; again++) {
            noon.cry();
            check.same("restore", noon.restore(0), 5);
            check.sameText("state", Check.state(noon), saved);
        }
        check.promise(62, "the full and the empty book");
        NoonCry full = full();
        full.save(0);
        full.restore(0);
        check.same("20 orders", full.orderCount(), 20);
        Check.load(full, NOBODY);
        full.save(1);
        full.restore(0);
        check.same("20 orders", full.orderCount(), 20);
        full.restore(1);
        check.same("no order", full.orderCount(), 0);
        check.same("no trader", full.traderCount(), 0);
    }

    private void restoreIsAChange() {
        check.promise(62, "it is a change, and earlier changes can still be undone");
        NoonCry noon = new NoonCry();
        noon.setBand(1);
        noon.save(0);
        noon.setBand(2);
        noon.setBand(3);
        noon.restore(0);
        check.same("band", noon.band(), 1);
        int[] bands = {3, 2, 1, 20};
        for (int left = 3; left >= 0; left--) {
            check.same("undo", noon.undo(), left);
            check.same("band", noon.band(), bands[3 - left]);
        }
        check.fails("undo", Edges.STATE, noon::undo);
        check.same("the slot is still there", noon.restore(0), 5);
        check.same("band", noon.band(), 1);
        check.promise(62, "the error, the output and the buffer stay");
        NoonCry busy = Edges.busy();
        busy.restore(0);
        check.same("code", busy.errorCode(), 4);
        check.same("offset", busy.errorOffset(), 14);
        check.sameText("output", Edges.wholeOutput(busy), "amy@51x3 dot@52x5 dot@53x5");
        check.same("buffer", busy.truncate(19), 19);
        check.same("buffer", busy.load(), 0);
    }
}
