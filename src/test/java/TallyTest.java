/** Promises 46 to 53: what is counted, and the checks of coins and goods. */
public final class TallyTest {
    private static final Check check = new Check("TallyTest");
    private static final String HEAD = "market 5 50 3 time;trader a 5000 90;trader b 5000 90;";

    public static void main(String[] args) {
        ofANewObject();
        ofAText();
        promises46And47();
        promise48();
        promise49();
        promises50And51();
        promises52And53();
        check.finish();
    }

    private static void ofANewObject() {
        NoonCry noon = new NoonCry();
        check.same("tradedPieces", noon.tradedPieces(), 20);
        check.same("goodCries", noon.goodCries(), 1);
        check.same("stoppedCries", noon.stoppedCries(), 0);
        check.same("lateOrders", noon.lateOrders(), 0);
        check.same("coinDifference", noon.coinDifference(), 0);
        check.same("goodDifference", noon.goodDifference(), 0);
        check.sameReal("tradedShare", noon.tradedShare(), 20.0f / 65.0f);
        check.sameReal("meanPrice", noon.meanPrice(), 52.0);
    }

    private static void ofAText() {
        NoonCry noon = Check.loaded(HEAD + "bid a 50 4 2;offer b 50 3 9;cry;offer b 90 2 9;bid a 90 1 0;cry;pass 3;");
        check.same("tradedPieces", noon.tradedPieces(), 3);
        check.same("goodCries", noon.goodCries(), 1);
        check.same("stoppedCries", noon.stoppedCries(), 1);
        check.same("lateOrders", noon.lateOrders(), 2);
        check.sameReal("tradedShare", noon.tradedShare(), 3.0f / 10.0f);
        check.sameReal("meanPrice", noon.meanPrice(), 50.0);
        check.same("a new text begins anew", Check.load(noon, HEAD), 0);
        check.same("tradedPieces", noon.tradedPieces(), 0);
        check.same("goodCries", noon.goodCries(), 0);
        check.same("stoppedCries", noon.stoppedCries(), 0);
        check.same("lateOrders", noon.lateOrders(), 0);
        check.sameReal("tradedShare", noon.tradedShare(), 0.0f);
        check.sameReal("meanPrice", noon.meanPrice(), 0.0);
        Check.load(noon, HEAD + "bid a 50 4 2;offer b 50 3 9;cry;");
        Check.load(noon, HEAD + "bid a 51 6 2;offer b 51 2 9;cry;");
        check.sameReal("tradedShare", noon.tradedShare(), 2.0f / 8.0f);
        check.sameReal("meanPrice", noon.meanPrice(), 51.0);
    }

    private static void promises46And47() {
        NoonCry noon = Check.loaded(HEAD + "band 0;bid a 50 9 99;");
        noon.cry();
        check.same("a cry without a price", noon.goodCries(), 0);
        noon.place(1, 1, 40, 4, 9);
        noon.cry();
        check.same("tradedPieces", noon.tradedPieces(), 4);
        check.same("goodCries", noon.goodCries(), 1);
        noon.place(1, 1, 40, 4, 9);
        noon.pass(5);
        check.same("tradedPieces", noon.tradedPieces(), 8);
        check.same("goodCries", noon.goodCries(), 2);
        noon.undo();
        check.same("undone", noon.tradedPieces(), 4);
        check.same("undone", noon.goodCries(), 1);
    }

    private static void promise48() {
        NoonCry noon = Check.loaded(HEAD + "bid a 60 9 99;offer b 60 9 99;");
        noon.cry();
        check.same("stoppedCries", noon.stoppedCries(), 1);
        check.same("lastPrice", noon.lastPrice(), 53);
        noon.pass(10);
        check.same("stoppedCries", noon.stoppedCries(), 3);
        check.same("lastPrice", noon.lastPrice(), 59);
        check.same("goodCries", noon.goodCries(), 0);
        check.same("cry", noon.cry(), 9);
        check.same("stoppedCries", noon.stoppedCries(), 3);
        check.same("lastPrice", noon.lastPrice(), 60);
    }

    private static void promise49() {
        NoonCry noon = Check.loaded(HEAD + "bid a 5 9 0;offer b 60 9 1;bid a 5 5 1;offer b 90 1 2;");
        noon.pass(1);
        check.same("lateOrders", noon.lateOrders(), 1);
        noon.pass(1);
        check.same("lateOrders", noon.lateOrders(), 3);
        noon.withdraw(3);
        noon.pass(9);
        check.same("withdrawn orders are not late", noon.lateOrders(), 3);
    }

    private static void promises50And51() {
        NoonCry noon = Check.loaded(HEAD + "band 0;rule share;bid a 60 9 99;bid b 60 8 99;offer b 50 9 99;offer a 51 3 9;give a b 5;");
        check.same("coinDifference", noon.coinDifference(), 0);
        check.same("goodDifference", noon.goodDifference(), 0);
        noon.pay(0, 99999);
        check.same("coins paid in", noon.coinDifference(), 0);
        noon.cry();
        check.same("coinDifference", noon.coinDifference(), 0);
        check.same("goodDifference", noon.goodDifference(), 0);
        noon.undo();
        noon.undo();
        check.same("undone", noon.coinDifference(), 0);
        NoonCry eight = Check.loaded("market 1 1 0 time;" + "trader a 7 8;trader b 7 8;trader c 7 8;trader d 7 8;"
            + "trader e 7 8;trader f 7 8;trader g 7 8;trader h 7 8;bid h 7 1 9;offer a 7 1 9;cry;");
        check.same("eight traders", eight.coinDifference(), 0);
        check.same("eight traders", eight.goodDifference(), 0);
        check.same("no traders", Check.loaded("market 1 1 0 time;").goodDifference(), 0);
    }

    private static void promises52And53() {
        NoonCry noon = Check.loaded(HEAD + "band 0;");
        check.sameReal("tradedShare", noon.tradedShare(), 0.0f);
        check.sameReal("meanPrice", noon.meanPrice(), 0.0);
        noon.place(0, 0, 55, 7, 9);
        check.sameReal("tradedShare", noon.tradedShare(), 0.0f);
        noon.place(1, 1, 55, 3, 9);
        noon.cry();
        check.sameReal("tradedShare", noon.tradedShare(), 3.0f / 10.0f);
        check.sameReal("meanPrice", noon.meanPrice(), 55.0);
        noon.place(1, 1, 40, 4, 9);
        noon.cry();
        check.sameReal("tradedShare", noon.tradedShare(), 7.0f / 14.0f);
        check.sameReal("meanPrice", noon.meanPrice(), (3 * 55 + 4 * 55) / 7.0);
        noon.place(1, 1, 40, 4, 9);
        noon.place(0, 0, 40, 4, 9);
        noon.cry();
        check.sameReal("tradedShare", noon.tradedShare(), 11.0f / 22.0f);
        check.sameReal("meanPrice", noon.meanPrice(), (7 * 55 + 4 * 40) / 11.0);
        noon.withdraw(noon.place(0, 0, 40, 80, 9));
        check.sameReal("withdrawn orders were placed", noon.tradedShare(), 11.0f / 102.0f);
        NoonCry amended = Check.loaded(HEAD + "band 0;bid a 50 8 9;offer b 50 2 9;amend 0 3;cry;");
        check.sameReal("an amended order was placed as a whole", amended.tradedShare(), 2.0f / 10.0f);
    }
}
