import java.util.ArrayList;
import java.util.List;

/** The boundaries of Undo, Forecasts, the 512 calls, and promises 63 to 65: undo, printSide and outputByte. */
final class EdgesOfUndo {
    private static final String[] CHANGES = {"load", "place", "withdraw", "setRule", "the same rule", "setBand", "the same band",
        "pay", "pass", "cry", "cry without a price", "restore"};

    private final Edges edges;
    private final Check check;

    EdgesOfUndo(Edges edges) {
        this.edges = edges;
        check = edges.check;
    }

    void run() {
        whatIsAChange();
        whatIsNoChange();
        sixChanges();
        sixOfEachKind();
        changesBehindAnUndo();
        whatUndoLeaves();
        whatUndoBringsBack();
        questionsChangeNothing();
        questionsOfOneValueChangeNothing();
        fiveHundredAndTwelveCalls();
        printSide();
        printedNumbers();
        theEmptyAndTheFullOutput();
        outputBytes();
        theOutputStays();
    }

    /** A new object with a saved state that differs from its state. */
    private static NoonCry saved() {
        NoonCry noon = new NoonCry();
        noon.setBand(9);
        noon.save(1);
        noon.undo();
        return noon;
    }

    private static void change(NoonCry noon, int which) {
        switch (which) {
            case 0: Check.load(noon, Edges.HEAD + "bid a 1 1 1;pass 1;"); break;
            case 1: noon.place(0, 1, 40, 9, 3); break;
            case 2: noon.withdraw(noon.orderAt(0)); break;
            case 3: noon.setRule(1 - noon.rule()); break;
            case 4: noon.setRule(noon.rule()); break;
            case 5: noon.setBand(noon.band() + 1); break;
            case 6: noon.setBand(noon.band()); break;
            case 7: noon.pay(0, 77); break;
            case 8: noon.pass(7); break;
            case 9: case 10: noon.cry(); break;
            default: noon.restore(1); break;
        }
    }

    private static NoonCry before(int which) {
        NoonCry noon = saved();
        if (which == 10) {
            noon.cry();
            for (int undone = 0; undone < 6; undone++) {
                noon.cry();
            }
        }
        return noon;
    }

    private void whatIsAChange() {
        for (int which = 0; which < CHANGES.length; which++) {
            check.sentence("Undo: " + CHANGES[which] + " is a change");
            NoonCry noon = before(which);
            String before = Check.state(noon);
            change(noon, which);
            check.same("undo", noon.undo(), which == 10 ? 5 : 0);
            check.sameText("state", Check.state(noon), before);
            if (which != 10) {
                check.fails("undo", Edges.STATE, noon::undo);
            }
        }
    }

    private void whatIsNoChange() {
        check.sentence("Undo: append, truncate, a load that fails, save, printSide and undo are no changes");
        NoonCry noon = new NoonCry();
        noon.append(0, 0, 0, 0, 0);
        noon.truncate(3);
        noon.load();
        noon.save(0);
        noon.printSide(0);
        noon.outputByte(0);
        check.fails("undo", Edges.STATE, noon::undo);
        check.fails("undo", Edges.STATE, noon::undo);
        check.sameText("state", Check.state(noon), Check.state(new NoonCry()));
        check.promise(63, "throws IllegalStateException if there is no change to undo");
        edges.refused("undo of none", Edges.STATE, NoonCry::new, NoonCry::undo);
        edges.refused("undo of none", Edges.STATE, () -> {
            NoonCry busy = Edges.busy();
            for (int change = 0; change < 5; change++) {
                busy.undo();
            }
            return busy;
        }, NoonCry::undo);
    }

    private void sixChanges() {
        check.promise(63, "the latest 6 changes, the latest one first; returns the number of changes that can still be undone");
        for (int changes = 0; changes <= 20; changes++) {
            NoonCry noon = new NoonCry();
            for (int band = 1; band <= changes; band++) {
                noon.setBand(100 + band);
            }
            int most = Math.min(6, changes);
            for (int left = most - 1; left >= 0; left--) {
                check.same("undo of " + changes, noon.undo(), left);
                int band = changes - most + left;
                check.same("band behind undo of " + changes, noon.band(), band == 0 ? 20 : 100 + band);
            }
            check.fails("undo of " + changes, Edges.STATE, noon::undo);
            check.same("band", noon.band(), changes > 6 ? 100 + changes - 6 : 20);
        }
    }

    private void sixOfEachKind() {
        check.promise(63, "every change in the first and in the last place that is undone, and in the one behind it");
        for (int which = 0; which < CHANGES.length; which++) {
            for (int behind = 0; behind <= 6; behind++) {
                NoonCry noon = before(which);
                String before = Check.state(noon);
                change(noon, which);
                String after = Check.state(noon);
                for (int more = 0; more < behind; more++) {
                    noon.setBand(30 + more);
                }
                for (int undone = 0; undone < behind; undone++) {
                    check.same("undo", noon.undo() > 0 || undone == 5 ? 1 : 0, 1);
                }
                check.sameText(CHANGES[which] + " and " + behind, Check.state(noon), after);
                if (behind == 6) {
                    check.fails(CHANGES[which] + " is the seventh", Edges.STATE, noon::undo);
                } else {
                    noon.undo();
                    check.sameText(CHANGES[which] + " is undone", Check.state(noon), before);
                }
            }
        }
    }

    private void changesBehindAnUndo() {
        check.promise(63, "a change behind an undo");
        for (int undone = 0; undone <= 6; undone++) {
            NoonCry noon = new NoonCry();
            for (int band = 1; band <= 6; band++) {
                noon.setBand(band);
            }
            List<Integer> bands = new ArrayList<>(List.of(20, 1, 2, 3, 4, 5, 6));
            for (int undo = 0; undo < undone; undo++) {
                noon.undo();
                bands.remove(bands.size() - 1);
            }
            for (int more = 1; more <= 3; more++) {
                noon.setBand(50 + more);
                bands.add(50 + more);
            }
            while (bands.size() > 7) {
                bands.remove(0);
            }
            for (int left = bands.size() - 2; left >= 0; left--) {
                check.same("undo", noon.undo(), left);
                check.same("band", noon.band(), bands.get(left));
            }
            check.fails("undo", Edges.STATE, noon::undo);
        }
        NoonCry all = new NoonCry();
        for (int change = 0; change < 40; change++) {
            all.setBand(change);
            check.same("undo", all.undo(), 0);
            check.same("band", all.band(), 20);
        }
    }

    private void whatUndoLeaves() {
        check.sentence("Undo: everything but the input buffer, the error, the output text and the saved states");
        NoonCry noon = new NoonCry();
        noon.setBand(7);
        noon.save(0);
        noon.printSide(1);
        Check.load(noon, "market 61");
        Check.write(noon, "market 9 8 7 share;");
        check.same("undo", noon.undo(), 0);
        check.same("band", noon.band(), 20);
        check.same("error", noon.errorCode(), 2);
        check.same("offset", noon.errorOffset(), 7);
        check.sameText("output", Edges.wholeOutput(noon), "dot@52x5 dot@53x5 cal@58x6");
        check.same("the length", noon.truncate(19), 19);
        check.fails("the length", Edges.ARGUMENT, () -> noon.truncate(20));
        check.same("the saved state", noon.restore(0), 5);
        check.same("band", noon.band(), 7);
        check.same("the buffer", noon.load(), 0);
        check.same("price", noon.lastPrice(), 8);
        check.same("undo of a load", noon.undo(), 1);
        check.same("the buffer stays empty", noon.truncate(0), 0);
        check.fails("the buffer stays empty", Edges.ARGUMENT, () -> noon.truncate(1));
        check.same("no error", noon.errorCode(), 0);
        check.same("no offset", noon.errorOffset(), -1);
    }

    private void whatUndoBringsBack() {
        check.sentence("Undo: names, period, last minutes and the next number come back too");
        NoonCry noon = new NoonCry();
        noon.place(0, 1, 40, 9, 3);
        Check.load(noon, "market 7 9 0 time;trader x 9 9;bid x 1 1 1;bid x 1 1 1;");
        noon.undo();
        check.same("minutes to the cry", noon.minutesToCry(), 5);
        check.same("minutes left", noon.minutesLeft(8), 4);
        noon.printSide(1);
        check.sameText("names", Edges.wholeOutput(noon), "amy@40x9 dot@52x5 dot@53x5 cal@58x6");
        check.same("the next number", noon.place(0, 0, 1, 1, 1), 9);
        noon.pass(300);
        check.same("late ones are gone", noon.orderCount(), 0);
        noon.undo();
        check.same("and come back", noon.orderCount(), 7);
        check.same("late", noon.lateOrders(), 0);
    }

    private void questionsChangeNothing() {
        check.sentence("Forecasts: a question changes nothing");
        Edges.Call[] questions = {NoonCry::errorCode, NoonCry::errorOffset, NoonCry::minute, NoonCry::lastPrice, NoonCry::band,
            NoonCry::rule, NoonCry::minutesToCry, NoonCry::traderCount, NoonCry::orderCount, NoonCry::bestBid, NoonCry::bestOffer,
            NoonCry::cryPrice, NoonCry::cryVolume, NoonCry::wouldStop, NoonCry::partialFills, NoonCry::tradedPieces,
            NoonCry::goodCries, NoonCry::stoppedCries, NoonCry::lateOrders, NoonCry::coinDifference, NoonCry::goodDifference,
            NoonCry::tradedShare, NoonCry::meanPrice, noon -> noon.outputByte(0), noon -> noon.truncate(19),
            noon -> noon.priceWith(0, 999, 99), noon -> noon.priceWith(1, 1, 99), noon -> noon.fillWith(0, 999, 99),
            noon -> noon.fillWith(1, 1, 99), noon -> noon.orderRefusal(0, 0, 999, 99), noon -> noon.orderRefusal(0, 1, 1, 1)};
        for (int each = 0; each < questions.length; each++) {
            edges.changesNothing("question " + each, questions[each]);
        }
    }

    private void questionsOfOneValueChangeNothing() {
        check.sentence("Forecasts: a question of an order, a trader, a price or a quantity changes nothing");
        Edges.CallWith[] ofOrders = {NoonCry::traderOf, NoonCry::sideOf, NoonCry::limitOf, NoonCry::quantityOf, NoonCry::minutesLeft,
            NoonCry::rankOf, NoonCry::fillOf, NoonCry::priceWithout, NoonCry::volumeWithout, NoonCry::worthOf};
        Edges.CallWith[] ofSmallOnes = {NoonCry::orderAt, NoonCry::coinsOf, NoonCry::goodsOf, NoonCry::freeCoins, NoonCry::freeGoods,
            NoonCry::coinsAfterCry, NoonCry::lastLimit, NoonCry::demandAt, NoonCry::supplyAt, NoonCry::volumeAt, NoonCry::excessAt,
            NoonCry::priceToBuy, NoonCry::priceToSell};
        for (Edges.CallWith question : ofOrders) {
            for (int order : new int[] {3, 5, 6, 8}) {
                edges.changesNothing("question of the order " + order, noon -> question.on(noon, order));
            }
        }
        for (Edges.CallWith question : ofSmallOnes) {
            edges.changesNothing("question of 1", noon -> question.on(noon, 1));
        }
        check.sentence("Forecasts: what would be is not yet");
        NoonCry noon = new NoonCry();
        noon.fillWith(0, 53, 99);
        noon.priceWithout(6);
        check.same("fill", noon.fillOf(6), 4);
        check.same("rank", noon.rankOf(6), 0);
        check.same("cry", noon.cry(), 4);
    }

    private void fiveHundredAndTwelveCalls() {
        check.sentence("What it is: at most 512 calls");
        NoonCry bands = new NoonCry();
        for (int call = 1; call <= 511; call++) {
            bands.setBand(call);
        }
        check.same("the 512th call", bands.setBand(512), 511);
        NoonCry orders = new NoonCry();
        for (int call = 0; call < 255; call++) {
            check.same("place", orders.place(0, 0, 1, 1, 999), 8 + call);
            check.same("withdraw", orders.withdraw(8 + call), 1);
        }
        check.same("the 511th call", orders.place(0, 0, 1, 1, 999), 263);
        check.same("the 512th call", orders.withdraw(263), 1);
        NoonCry minutes = new NoonCry();
        for (int call = 1; call <= 511; call++) {
            minutes.pass(300);
        }
        check.same("the 512th call", minutes.minute(), 5 + 511 * 300);
        NoonCry cries = new NoonCry();
        for (int call = 1; call <= 511; call++) {
            cries.cry();
        }
        check.same("the 512th call", cries.undo(), 5);
        NoonCry texts = new NoonCry();
        for (int call = 1; call <= 511; call++) {
            texts.load();
        }
        check.same("the 512th call", texts.errorCode(), 1);
        NoonCry states = new NoonCry();
        for (int call = 1; call <= 255; call++) {
            states.save(call % 2);
            states.restore(call % 2);
        }
        states.undo();
        check.same("the 512th call", states.undo(), 4);
    }

    private void printSide() {
        check.promise(64, "throws IllegalArgumentException if side is not 0 or 1");
        edges.inside("printSide", 0, 1, NoonCry::printSide, 17, 26);
        edges.outside("printSide", Edges.ARGUMENT, 0, 1, NoonCry::printSide);
        check.promise(64, "in the order of fills and separated by spaces");
        printed("bid a 1 1 9;", 0, "a@1x1");
        printed("bid a 1 1 9;bid a 1 2 9;", 0, "a@1x1 a@1x2");
        printed("bid a 1 1 9;bid a 2 2 9;bid a 999 99 9;", 0, "a@999x99 a@2x2 a@1x1");
        printed("offer a 1 1 9;offer a 2 2 9;offer a 999 99 9;", 1, "a@1x1 a@2x2 a@999x99");
        printed("bid a 1 1 9;offer a 2 2 9;bid a 3 3 9;offer a 1 4 9;", 0, "a@3x3 a@1x1");
        printed("bid a 1 1 9;offer a 2 2 9;bid a 3 3 9;offer a 1 4 9;", 1, "a@1x4 a@2x2");
        printed("trader zyxw 9 9;bid zyxw 1 1 9;", 0, "zyxw@1x1");
        printed("trader az 9 9;bid az 1 1 9;", 0, "az@1x1");
        printed("trader bcd 9 9;bid bcd 1 1 9;", 0, "bcd@1x1");
        printed("bid a 9 9 9;offer a 9 8 9;cry;", 0, "a@9x1");
        check.promise(64, "a single - if there are none");
        printed("", 0, "-");
        printed("", 1, "-");
        printed("offer a 1 1 9;", 0, "-");
        printed("bid a 1 1 9;", 1, "-");
        printed("bid a 1 1 0;pass 1;", 0, "-");
    }

    private void printed(String orders, int side, String due) {
        NoonCry noon = Check.loaded(Edges.RICH + orders);
        check.same("length of " + due, noon.printSide(side), due.length());
        check.sameText("text", Edges.wholeOutput(noon), due);
    }

    private void printedNumbers() {
        check.promise(64, "limits of 1 to 999, quantities of 1 to 99");
        for (int limit : new int[] {1, 9, 10, 11, 99, 100, 101, 109, 110, 500, 900, 990, 998, 999}) {
            printed("bid a " + limit + " 7 9;", 0, "a@" + limit + "x7");
        }
        for (int quantity : new int[] {1, 9, 10, 11, 50, 89, 90, 98, 99}) {
            printed("offer a 7 " + quantity + " 9;", 1, "a@7x" + quantity);
        }
    }

    private static NoonCry longest() {
        NoonCry noon = Check.loaded("market 60 50 0 time;trader abcd 999999 9999;");
        for (int order = 0; order < 20; order++) {
            noon.place(0, 1, 999, 99, 999);
        }
        return noon;
    }

    private void theEmptyAndTheFullOutput() {
        check.promise(64, "20 orders of the longest form");
        NoonCry noon = longest();
        check.same("length", noon.printSide(1), 20 * 11 + 19);
        check.sameText("text", Edges.wholeOutput(noon), "abcd@999x99" + " abcd@999x99".repeat(19));
        check.promise(64, "replaces its content");
        check.same("length", noon.printSide(0), 1);
        check.sameText("text", Edges.wholeOutput(noon), "-");
        check.same("the length again", noon.printSide(1), 239);
        check.promise(64, "returns the length of the output text");
        check.same("again", noon.printSide(1), 239);
        noon.withdraw(0);
        check.same("19 orders", noon.printSide(1), 227);
        check.fails("behind it", Edges.ELEMENT, () -> noon.outputByte(227));
    }

    private void outputBytes() {
        check.promise(65, "throws NoSuchElementException if there is no such byte");
        edges.inside("outputByte", 0, 25, NoonCry::outputByte, 'a', '5');
        edges.outside("outputByte", Edges.ELEMENT, 0, 25, NoonCry::outputByte);
        for (int index : new int[] {-1, 0, 1, 238, Edges.MIN, Edges.MAX}) {
            edges.refused("outputByte of the empty text at " + index, Edges.ELEMENT, EdgesOfUndo::saved, noon -> noon.outputByte(index));
        }
        NoonCry noon = longest();
        noon.printSide(1);
        check.same("the first byte", noon.outputByte(0), 'a');
        check.same("the last byte", noon.outputByte(238), '9');
        check.fails("behind the last byte", Edges.ELEMENT, () -> noon.outputByte(239));
        noon.printSide(0);
        check.same("a single byte", noon.outputByte(0), '-');
        check.fails("behind it", Edges.ELEMENT, () -> noon.outputByte(1));
        check.fails("what was there", Edges.ELEMENT, () -> noon.outputByte(238));
    }

    private void theOutputStays() {
        check.promise(65, "other calls leave the output text");
        NoonCry noon = Edges.busy();
        noon.cry();
        noon.pass(300);
        noon.load();
        noon.undo();
        noon.save(0);
        noon.restore(0);
        Check.answer(() -> noon.printSide(2));
        check.sameText("text", Edges.wholeOutput(noon), "amy@51x3 dot@52x5 dot@53x5");
    }
}
