/** Promises 1 to 6: a new object, the input buffer, the setup text and its errors. */
public final class TextTest {
    private static final String HEAD = "market 5 50 0 time;trader a 100 9;trader b 50 0;";
    private static final String FIRST = "market 5 50 20 time;trader amy 2000 10;trader ben 3000 0;trader cal 500 40;"
        + "trader dot 900 25;bid amy 60 8 9;bid ben 55 12 9;offer cal 48 10 9;offer dot 52 15 9;offer cal 58 6 9;"
        + "bid dot 50 5 9;pass 5;bid ben 53 4 20;offer dot 53 5 20;";
    private static final Check check = new Check("TextTest");

    public static void main(String[] args) {
        promise1();
        promise2();
        promise3();
        promise4();
        promise4EmptiesAndKeeps();
        statements();
        statementsAlone();
        amendedOrders();
        promise5And6();
        marketErrors();
        traderErrors();
        orderErrors();
        changeErrors();
        formErrors();
        smallestCode();
        cutTexts();
        check.finish();
    }

    private static void promise1() {
        NoonCry noon = new NoonCry();
        check.same("errorCode", noon.errorCode(), 0);
        check.same("errorOffset", noon.errorOffset(), -1);
        check.fails("outputByte", java.util.NoSuchElementException.class, () -> noon.outputByte(0));
        check.fails("restore 0", IllegalStateException.class, () -> noon.restore(0));
        check.fails("restore 1", IllegalStateException.class, () -> noon.restore(1));
        check.fails("undo", IllegalStateException.class, noon::undo);
        check.same("truncate", noon.truncate(0), 0);
        check.fails("truncate 1", IllegalArgumentException.class, () -> noon.truncate(1));
        check.same("minute", noon.minute(), 5);
        check.same("coins of ben", noon.coinsOf(1), 2376);
        check.sameText("state as loaded", Check.state(noon), Check.state(Check.loaded(FIRST)));
        check.same("the next order", noon.place(0, 1, 999, 1, 0), 8);
        check.same("output", noon.printSide(0), 17);
        check.sameText("names", Check.output(noon, 17), "ben@53x4 dot@50x5");
    }

    private static void promise2() {
        NoonCry noon = new NoonCry();
        for (int piece = 1; piece <= 30; piece++) {
            check.same("append", noon.append(-1, 0, 1, 2, 3), 20 * piece);
        }
        check.fails("append 31", IllegalStateException.class, () -> noon.append(0, 0, 0, 0, 0));
        check.same("truncate", noon.truncate(581), 581);
        check.fails("append at 581", IllegalStateException.class, () -> noon.append(0, 0, 0, 0, 0));
        check.same("truncate", noon.truncate(580), 580);
        check.same("append at 580", noon.append(0, 0, 0, 0, 0), 600);
        NoonCry order = new NoonCry();
        // "mark", "et 7", " 8 9", " sha", "re;\n"
        order.append(0x6d61726b, 0x65742037, 0x20382039, 0x20736861, 0x72653b0a);
        check.same("load", order.load(), 0);
        check.same("price", order.lastPrice(), 8);
        check.same("band", order.band(), 9);
        check.same("period", order.minutesToCry(), 7);
        check.same("rule", order.rule(), 1);
    }

    private static void promise3() {
        NoonCry noon = new NoonCry();
        noon.append(0, 0, 0, 0, 0);
        check.fails("truncate -1", IllegalArgumentException.class, () -> noon.truncate(-1));
        check.fails("truncate 21", IllegalArgumentException.class, () -> noon.truncate(21));
        check.fails("truncate MIN", IllegalArgumentException.class, () -> noon.truncate(Integer.MIN_VALUE));
        check.fails("truncate MAX", IllegalArgumentException.class, () -> noon.truncate(Integer.MAX_VALUE));
        check.same("truncate 20", noon.truncate(20), 20);
        check.same("truncate 7", noon.truncate(7), 7);
        check.fails("truncate 8", IllegalArgumentException.class, () -> noon.truncate(8));
        check.same("append", noon.append(0, 0, 0, 0, 0), 27);
        check.same("truncate 0", noon.truncate(0), 0);
    }

    private static void promise4() {
        NoonCry noon = new NoonCry();
        check.same("load", Check.load(noon, HEAD + "bid a 5 4 9;offer a 6 7 9;"), 2);
        check.same("traders", noon.traderCount(), 2);
        check.same("orders", noon.orderCount(), 2);
        check.same("minute", noon.minute(), 0);
        check.same("traded", noon.tradedPieces(), 0);
        check.same("first number", noon.orderAt(0), 0);
        check.same("market alone", Check.load(noon, "market 60 999 999 share;"), 0);
        check.same("traders", noon.traderCount(), 0);
        check.same("PARSE_ERROR", NoonCry.PARSE_ERROR, -7);
        check.same("load of nothing", noon.load(), -7);
        check.same("the state stays", noon.lastPrice(), 999);
        check.same("line feeds", Check.load(noon, "\n market\n5 50 0\ntime ;\ntrader a 1 2 ; "), 0);
        check.same("goods", noon.goodsOf(0), 2);
        check.same("tight tokens", Check.load(noon, "market5 50 0time;trader a100 9;bid a5 4 9;"), 1);
        check.same("leading zeros", Check.load(noon, "market 0005 000000000000000050 00 time;trader a 01 1;offer a 0009 01 00;"), 1);
        check.same("limit", noon.limitOf(0), 9);
        check.same("words as names", Check.load(noon, "market 1 1 0 time;trader bid 9 9;trader time 9 9;bid bid 1 1 1;offer time 1 1 1;"), 2);
        check.same("trader", noon.traderOf(1), 1);
    }

    private static void promise4EmptiesAndKeeps() {
        NoonCry noon = new NoonCry();
        noon.setBand(1);
        noon.save(1);
        noon.printSide(1);
        Check.load(noon, HEAD);
        check.same("emptied", noon.append(0, 0, 0, 0, 0), 20);
        check.same("a bad load", noon.load(), -7);
        check.same("emptied too", noon.append(0, 0, 0, 0, 0), 20);
        check.same("output kept", noon.outputByte(0), 'd');
        check.same("undo the load", noon.undo(), 1);
        check.same("band", noon.band(), 1);
        check.same("the buffer is kept", noon.append(0, 0, 0, 0, 0), 40);
        check.same("the error is kept", noon.errorCode(), 1);
        check.same("undo setBand", noon.undo(), 0);
        check.same("restore", noon.restore(1), 5);
        check.same("band", noon.band(), 1);
    }

    private static void statements() {
        NoonCry noon = Check.loaded(HEAD + "give a b 4;clear b;period 7;rule share;band 12;pass 0;");
        check.same("goods of a", noon.goodsOf(0), 5);
        check.same("goods of b", noon.goodsOf(1), 4);
        check.same("period", noon.minutesToCry(), 7);
        check.same("rule", noon.rule(), 1);
        check.same("band", noon.band(), 12);
        check.same("minute", noon.minute(), 0);
        noon = Check.loaded(HEAD + "rule share;rule time;bid a 5 4 9;bid b 5 4 9;bid a 6 1 9;withdraw 1;clear a;pass 300;");
        check.same("rule", noon.rule(), 0);
        check.same("orders", noon.orderCount(), 0);
        check.same("free", noon.freeCoins(0), 100);
        check.same("minute", noon.minute(), 300);
        check.same("late", noon.lateOrders(), 0);
        noon = Check.loaded(HEAD + "bid b 8 3 9;offer a 6 7 9;cry;withdraw 1;offer a 1 1 0;pass 1;");
        check.same("traded", noon.tradedPieces(), 3);
        check.same("price", noon.lastPrice(), 8);
        check.same("late", noon.lateOrders(), 1);
        check.same("coins", noon.coinsOf(0), 124);
        check.same("numbers go on", noon.place(0, 1, 5, 1, 0), 3);
        check.same("the greatest trader", Check.load(new NoonCry(), "market 1 1 0 time;trader abcd 999999 9999;offer abcd 999 99 999;"), 1);
        check.same("the whole goods", Check.load(new NoonCry(), HEAD + "give a b 9;"), 0);
        noon = Check.loaded("market 1 1 0 time;trader a 999999 9999;trader b 9 9999;give b a 9999;");
        check.same("more goods than 9999", noon.goodsOf(0), 19998);
    }

    /** Each statement does what it says and nothing else. */
    private static void statementsAlone() {
        String bids = "0 0 0 9 3 10|1 0 0 8 3 10|";
        String offer = "2 1 1 60 3 10|";
        alone("", "0 50 20 0 5|100 9 49 9|50 9 50 6|" + bids + offer);
        alone("trader c 1 2;", "0 50 20 0 5|100 9 49 9|50 9 50 6|1 2 1 2|" + bids + offer);
        alone("bid a 49 1 0;", "0 50 20 0 5|100 9 0 9|50 9 50 6|" + bids + offer + "3 0 0 49 1 1|");
        alone("offer b 61 6 999;", "0 50 20 0 5|100 9 49 9|50 9 50 0|" + bids + offer + "3 1 1 61 6 1000|");
        alone("withdraw 0;", "0 50 20 0 5|100 9 76 9|50 9 50 6|1 0 0 8 3 10|" + offer);
        alone("amend 0 2;", "0 50 20 0 5|100 9 58 9|50 9 50 6|0 0 0 9 2 10|1 0 0 8 3 10|" + offer);
        alone("extend 0 3;", "0 50 20 0 5|100 9 49 9|50 9 50 6|0 0 0 9 3 4|1 0 0 8 3 10|" + offer);
        alone("clear a;", "0 50 20 0 5|100 9 100 9|50 9 50 6|" + offer);
        alone("give a b 4;", "0 50 20 0 5|100 5 49 5|50 13 50 10|" + bids + offer);
        alone("period 7;", "0 50 20 0 7|100 9 49 9|50 9 50 6|" + bids + offer);
        alone("rule share;", "0 50 20 1 5|100 9 49 9|50 9 50 6|" + bids + offer);
        alone("band 3;", "0 50 3 0 5|100 9 49 9|50 9 50 6|" + bids + offer);
        alone("pass 2;", "2 50 20 0 3|100 9 49 9|50 9 50 6|0 0 0 9 3 8|1 0 0 8 3 8|2 1 1 60 3 8|");
        alone("cry;", "0 50 20 0 5|100 9 49 9|50 9 50 6|" + bids + offer);
    }

    private static void alone(String statement, String due) {
        String before = "market 5 50 20 time;trader a 100 9;trader b 50 9;bid a 9 3 9;bid a 8 3 9;offer b 60 3 9;";
        String nothing = "0 0 0 0 0 0 0.0 0.0";
        check.sameText("behind " + statement, Check.state(Check.loaded(before + statement)), due + nothing);
    }

    private static void amendedOrders() {
        NoonCry noon = Check.loaded(HEAD + "bid a 10 4 9;offer a 60 5 1;amend 0 1;amend 1 2;pass 1;extend 1 3;");
        check.same("free coins", noon.freeCoins(0), 90);
        check.same("free goods", noon.freeGoods(0), 7);
        check.same("quantity", noon.quantityOf(1), 2);
        check.same("left", noon.minutesLeft(1), 4);
        check.same("left", noon.minutesLeft(0), 9);
        noon = Check.loaded(HEAD + "bid a 10 4 9;pass 2;extend 0 0;");
        check.same("left", noon.minutesLeft(0), 1);
    }

    private static void fault(String text, int code, int offset) {
        NoonCry noon = new NoonCry();
        String before = Check.state(noon);
        check.same("load of " + text, Check.load(noon, text), -7);
        check.same("code of " + text, noon.errorCode(), code);
        check.same("offset of " + text, noon.errorOffset(), offset);
        check.sameText("state after " + text, Check.state(noon), before);
        check.fails("undo after " + text, IllegalStateException.class, noon::undo);
    }

    private static void behind(String head, String text, int code, int offset) {
        fault(head + text, code, head.length() + offset);
    }

    private static void promise5And6() {
        NoonCry noon = new NoonCry();
        noon.load();
        check.same("code", noon.errorCode(), 1);
        check.same("offset", noon.errorOffset(), 0);
        Check.load(noon, HEAD);
        check.same("code", noon.errorCode(), 0);
        check.same("offset", noon.errorOffset(), -1);
        Check.load(noon, "  market 61 ");
        check.same("code", noon.errorCode(), 2);
        check.same("offset", noon.errorOffset(), 9);
        Check.load(noon, "   ");
        check.same("code", noon.errorCode(), 1);
        check.same("offset", noon.errorOffset(), 3);
    }

    private static void marketErrors() {
        fault("trader a 1 1;", 1, 0);
        fault("cry;", 1, 0);
        fault(";", 1, 0);
        fault("7", 1, 0);
        fault("markets 5 50 0 time;", 1, 0);
        fault("mark et 5 50 0 time;", 1, 0);
        fault("Market 5 50 0 time;", 1, 0);
        fault("market", 1, 6);
        fault("market a 50 0 time;", 1, 7);
        fault("market 0 50 0 time;", 2, 7);
        fault("market 61 50 0 time;", 2, 7);
        fault("market 5 0 0 time;", 2, 9);
        fault("market 5 1000 0 time;", 2, 9);
        fault("market 5 50 1000 time;", 2, 12);
        fault("market 5 50 ;", 1, 12);
        fault("market 5 50 0 5;", 1, 14);
        fault("market 5 50 0 timed;", 4, 14);
        fault("market 5 50 0 tim;", 4, 14);
        fault("market 5 50 0 shar;", 4, 14);
        fault("market 5 50 0 time 5;", 1, 19);
        fault("market 5 50 0 time", 1, 18);
        fault("market 5 50 0 time  ", 1, 20);
        fault("market 99999999999999999999 50 0 time;", 2, 7);
        fault("market 4294967301 50 0 time;", 2, 7);
    }

    private static void traderErrors() {
        behind(HEAD, "trader 5 1 1;", 1, 7);
        behind(HEAD, "trader ;", 1, 7);
        behind(HEAD, "trader abcde 1 1;", 2, 7);
        behind(HEAD, "trader a 1 1;", 3, 7);
        behind(HEAD, "trader c 1000000 1;", 2, 9);
        behind(HEAD, "trader c 1 10000;", 2, 11);
        behind(HEAD, "trader c 1 a;", 1, 11);
        behind(HEAD, "trader c 1 1 1;", 1, 13);
        String six = "trader c 1 1;trader d 1 1;trader e 1 1;trader f 1 1;trader g 1 1;trader h 1 1;";
        check.same("eight traders", Check.loaded(HEAD + six).traderCount(), 8);
        behind(HEAD + six, "trader a 1 1;", 5, 0);
        behind(HEAD + six, "trader", 5, 0);
        behind(HEAD, "trader ab 1 1;trader abc 1 1;trader ab 1 1;", 3, 36);
    }

    private static void orderErrors() {
        for (String side : new String[] {"bid ", "offer "}) {
            int at = side.length();
            behind(HEAD, side + "c 5 1 1;", 4, at);
            behind(HEAD, side + "aa 5 1 1;", 4, at);
            behind(HEAD, side + "abcde 5 1 1;", 4, at);
            behind(HEAD, side + "5 5 1 1;", 1, at);
            behind(HEAD, side + "a 0 1 1;", 2, at + 2);
            behind(HEAD, side + "a 1000 1 1;", 2, at + 2);
            behind(HEAD, side + "a a 1 1;", 1, at + 2);
            behind(HEAD, side + "a 5 0 1;", 2, at + 4);
            behind(HEAD, side + "a 5 100 1;", 2, at + 4);
            behind(HEAD, side + "a 5 ;", 1, at + 4);
            behind(HEAD, side + "a 5 1 1000;", 2, at + 6);
            behind(HEAD, side + "a 5 1;", 1, at + 5);
            behind(HEAD, side + "a 5 1 1", 1, at + 7);
        }
        behind(HEAD, "bid a 101 1 1;", 6, 10);
        behind(HEAD, "bid a 34 3 x;", 6, 9);
        behind(HEAD, "bid a 25 2 1;bid a 17 3 1;", 6, 22);
        check.same("all coins", Check.load(new NoonCry(), HEAD + "bid a 25 2 1;bid a 25 2 1;"), 2);
        behind(HEAD, "offer b 5 1 1;", 6, 10);
        behind(HEAD, "offer a 5 5 1;offer a 5 5 1;", 6, 24);
        check.same("all goods", Check.load(new NoonCry(), HEAD + "offer a 5 5 1;offer a 5 4 1;"), 2);
        String twenty = "bid a 1 1 9;".repeat(20);
        check.same("20 orders", Check.load(new NoonCry(), HEAD + twenty), 20);
        behind(HEAD + twenty, "bid z", 5, 0);
        behind(HEAD + twenty, "offer 0", 5, 0);
        check.same("20 again", Check.load(new NoonCry(), HEAD + twenty + "withdraw 19;bid a 1 1 9;"), 20);
    }

    private static void changeErrors() {
        String head = HEAD + "bid a 5 4 9;";
        behind(head, "withdraw 1;", 4, 9);
        behind(head, "withdraw a;", 1, 9);
        behind(head, "withdraw 99999999999999999999999;", 4, 9);
        behind(head, "withdraw 4294967296;", 4, 9);
        behind(head, "withdraw 0;withdraw 0;", 4, 20);
        behind(head, "amend 1 1;", 4, 6);
        behind(head, "amend 0 0;", 2, 8);
        behind(head, "amend 0 100;", 2, 8);
        behind(head, "amend 0 4;", 6, 8);
        behind(head, "amend 0 5;", 6, 8);
        check.same("amend to 3", Check.load(new NoonCry(), head + "amend 0 3;"), 1);
        behind(head, "extend 1 1;", 4, 7);
        behind(head, "extend 0 1000;", 2, 9);
        check.same("extend", Check.load(new NoonCry(), head + "extend 0 999;"), 1);
        behind(head, "pass 10;extend 0 1;", 4, 15);
        behind(head, "clear c;", 4, 6);
        behind(head, "clear 0;", 1, 6);
        behind(head, "give c a 1;", 4, 5);
        behind(head, "give a c 1;", 4, 7);
        behind(head, "give a a 1;", 3, 7);
        behind(head, "give a 1;", 1, 7);
        behind(head, "give a b 0;", 2, 9);
        behind(head, "give a b 10000;", 2, 9);
        behind(head, "give a b 10;", 6, 9);
        behind(head, "offer a 9 2 9;give a b 8;", 6, 23);
        behind(head, "give b a 1;", 6, 9);
    }

    private static void formErrors() {
        behind(HEAD, "market 5 50 0 time;", 1, 0);
        behind(HEAD, "period 0;", 2, 7);
        check.same("period 1", Check.loaded(HEAD + "period 1;").minutesToCry(), 1);
        check.same("period 60", Check.loaded(HEAD + "period 60;").minutesToCry(), 60);
        check.same("band 999", Check.loaded(HEAD + "band 999;").band(), 999);
        fault("narket 5 50 0 time;", 1, 0);
        behind(HEAD, "dry;", 1, 0);
        behind(HEAD, "period 61;", 2, 7);
        behind(HEAD, "period a;", 1, 7);
        behind(HEAD, "rule luck;", 4, 5);
        behind(HEAD, "rule 1;", 1, 5);
        behind(HEAD, "band 1000;", 2, 5);
        behind(HEAD, "pass 301;", 2, 5);
        behind(HEAD, "pass;", 1, 4);
        behind(HEAD, "cry cry;", 1, 4);
        behind(HEAD, "cry", 1, 3);
        behind(HEAD, ";", 1, 0);
        behind(HEAD, "5;", 1, 0);
        behind(HEAD, "cries;", 1, 0);
        behind(HEAD, "cry;#", 1, 4);
        behind(HEAD, "cry#;", 1, 3);
        behind(HEAD, "cry;\t", 1, 4);
        behind(HEAD, "cry;\0", 1, 4);
        behind(HEAD, "cry;\u00e9", 1, 4);
        behind(HEAD, "pass -1;", 1, 5);
        behind(HEAD, "pass 1.5;", 1, 6);
    }

    private static void cutTexts() {
        NoonCry noon = new NoonCry();
        Check.write(noon, HEAD + "crying");
        noon.truncate(HEAD.length() + 3);
        check.same("a word is cut", noon.load(), -7);
        check.same("offset", noon.errorOffset(), HEAD.length() + 3);
        Check.write(noon, "market 599 9 9 time;");
        noon.truncate(8);
        check.same("a number is cut", noon.load(), -7);
        check.same("offset", noon.errorOffset(), 8);
        fault(HEAD + " ".repeat(597 - HEAD.length()) + "cry", 1, 600);
        fault(HEAD + " ".repeat(594 - HEAD.length()) + "band 9", 1, 600);
        fault(HEAD + " ".repeat(593 - HEAD.length()) + "band 9 ", 1, 600);
        check.same("a full buffer", Check.load(noon, HEAD + " ".repeat(596 - HEAD.length()) + "cry;"), 0);
    }

    private static void smallestCode() {
        String twenty = "bid a 1 1 9;".repeat(20);
        behind(HEAD, "bid a 999 0 9;", 2, 10);
        behind(HEAD, "offer b 999 100 9;", 2, 12);
        behind(HEAD, "bid a 5 4 9;amend 0 100;", 2, 20);
        behind(HEAD, "give b a 0;", 2, 9);
        behind(HEAD + twenty, "bids", 1, 0);
    }
}
