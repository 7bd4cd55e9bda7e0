/** The boundaries of the section "Setup text": tokens, forms, ranges, and the error codes with their offsets. */
final class EdgesOfText {
    private static final String FOUR = Edges.HEAD + "bid a 5 4 9;";
    // every statement, as it may stand behind FOUR
    private static final String[] STATEMENTS = {"trader c 1 1 ;", "bid a 1 1 1 ;", "offer a 1 1 1 ;", "withdraw 0 ;",
        "amend 0 3 ;", "extend 0 7 ;", "clear a ;", "give a b 1 ;", "period 7 ;", "rule share ;", "band 3 ;", "pass 2 ;", "cry ;"};

    private final Edges edges;
    private final Check check;

    EdgesOfText(Edges edges) {
        this.edges = edges;
        check = edges.check;
    }

    void run() {
        separators();
        longestRuns();
        everyByteBehindAWord();
        everyByteInANumber();
        theFirstStatement();
        theWordsOfStatements();
        missingTokens();
        tokensOfAnotherKind();
        theSemicolon();
        numbersOfTheMarket();
        numbersOfTraders();
        numbersOfOrders();
        numbersOfChanges();
        numbersOfSettings();
        theWordsOfRules();
        namesOfNewTraders();
        traders();
        orders();
        theNinthTrader();
        theTwentyFirstOrder();
        refusedBids();
        refusedOffers();
        amendedQuantities();
        givenGoods();
        theSmallestCode();
        theFirstToken();
        inOrder();
    }

    private void separators() {
        check.sentence("Spaces (32) and line feeds (10) only separate tokens");
        edges.taken(" \n \n market \n 5\n\n50  0\ntime \n;\n \n", NoonCry::lastPrice, 50);
        edges.taken("market 5 50 0 time;", NoonCry::lastPrice, 50);
        edges.fault(" \n 7", 1, 3);
        edges.fault(Edges.HEAD + "cry ;\n cry", 1, Edges.HEAD.length() + 10);
        for (int sign : new int[] {0, 1, 9, 11, 12, 13, 31, 33, 127, 128, 160, 255}) {
            edges.fault("market" + (char) sign + "5 50 0 time;", 1, 6);
            edges.fault((char) sign + "market 5 50 0 time;", 1, 0);
            edges.fault("market 5 50 0 time;" + (char) sign, 1, 19);
        }
    }

    private void longestRuns() {
        check.sentence("A token is a longest run of letters, a longest run of digits, or a semicolon");
        edges.taken("market5 50 0time;trader az9 8;bid az1 1 1;", noon -> noon.limitOf(0), 1);
        edges.taken("market5 50 0time;trader ab09 8;", noon -> noon.coinsOf(0), 9);
        edges.fault("market5 50 0time;traderab 9 8;", 1, 17);
        edges.fault("mar ket 5 50 0 time;", 1, 0);
        edges.fault("market 5 5 0 0 time;", 1, 13);
        edges.fault("market 550 0 time;", 2, 7);
        check.sentence("a number of any length");
        edges.taken("market " + "0".repeat(400) + "60 " + "0".repeat(150) + "1 0 time;", NoonCry::minutesToCry, 60);
        edges.fault("market " + "9".repeat(593), 2, 7);
        edges.fault("market " + "0".repeat(593), 2, 7);
        edges.fault("market 1" + "0".repeat(592), 2, 7);
    }

    private void everyByteBehindAWord() {
        check.sentence("each byte behind the word cry");
        int end = Edges.HEAD.length() + 3;
        for (int sign = 0; sign < 256; sign++) {
            String text = Edges.HEAD + "cry" + (char) sign + ";";
            if (sign == ' ' || sign == '\n') {
                edges.taken(text, NoonCry::minute, 0);
            } else if (sign >= 'a' && sign <= 'z') {
                edges.fault(text, 1, end - 3);
            } else {
                edges.fault(text, 1, sign == ';' ? end + 1 : end);
            }
        }
    }

    private void everyByteInANumber() {
        check.sentence("each byte between two digits");
        int end = Edges.HEAD.length() + 6;
        for (int sign = 0; sign < 256; sign++) {
            String text = Edges.HEAD + "band 1" + (char) sign + "2;";
            if (sign >= '0' && sign <= '9') {
                edges.taken(text, NoonCry::band, 102 + 10 * (sign - '0'));
            } else {
                boolean separates = sign == ' ' || sign == '\n' || sign == ';';
                edges.fault(text, 1, separates ? end + 1 : end);
            }
        }
    }

    private void theFirstStatement() {
        check.sentence("market is the first statement, and it occurs only there");
        edges.taken("market 5 50 0 time;", NoonCry::traderCount, 0);
        edges.fault("market 5 50 0 time;", "market 5 50 0 time;", 1, 0);
        edges.fault(Edges.HEAD, "market 5 50 0 time;", 1, 0);
        edges.fault(Edges.HEAD, "market", 1, 0);
        for (String statement : STATEMENTS) {
            edges.fault(statement + "market 5 50 0 time;", 1, 0);
        }
        edges.fault(";market 5 50 0 time;", 1, 0);
        edges.fault("5 50 0 time;", 1, 0);
    }

    private void theWordsOfStatements() {
        check.sentence("the words of the statements, a letter less and a letter more");
        for (String statement : STATEMENTS) {
            int end = statement.indexOf(' ');
            String word = statement.substring(0, end);
            edges.taken(FOUR + statement, NoonCry::lateOrders, 0);
            edges.fault(FOUR, word.substring(0, end - 1) + statement.substring(end), 1, 0);
            edges.fault(FOUR, word.substring(1) + statement.substring(end), 1, 0);
            edges.fault(FOUR, word + "a" + statement.substring(end), 1, 0);
            edges.fault(FOUR, (char) (word.charAt(0) + 1) + statement.substring(1), 1, 0);
            edges.fault(FOUR, word.substring(0, end - 1) + (char) (word.charAt(end - 1) + 1) + statement.substring(end), 1, 0);
            edges.fault(FOUR, word.toUpperCase(java.util.Locale.ROOT) + statement.substring(end), 1, 0);
            edges.fault(FOUR, word + word + statement.substring(end), 1, 0);
        }
        for (String word : new String[] {"marke", "markets", "arket", "narket", "market" + "market", "MARKET", "m"}) {
            edges.fault(word + " 5 50 0 time;", 1, 0);
        }
    }

    private void missingTokens() {
        check.sentence("1: the text ends too early, or a token is not there");
        for (String statement : STATEMENTS) {
            eachCut(FOUR, statement);
        }
        eachCut("", "market 5 50 0 time ;");
    }

    private void eachCut(String before, String statement) {
        for (int space = statement.indexOf(' '); space >= 0; space = statement.indexOf(' ', space + 1)) {
            String part = statement.substring(0, space);
            edges.fault(before, part, 1, space);
            edges.fault(before, part + " \n", 1, space + 2);
            if (!statement.startsWith(" ;", space)) {
                edges.fault(before, part + ";", 1, space);
                edges.fault(before, part + " ;", 1, space + 1);
            }
        }
    }

    private void tokensOfAnotherKind() {
        check.sentence("1: a word for a number, a number for a word");
        for (String statement : STATEMENTS) {
            eachOtherKind(FOUR, statement);
        }
        eachOtherKind("", "market 5 50 0 time ;");
    }

    private void eachOtherKind(String before, String statement) {
        String[] tokens = statement.split(" ");
        int offset = 0;
        for (String token : tokens) {
            if (!token.equals(";")) {
                boolean word = Character.isLetter(token.charAt(0));
                String behind = statement.substring(offset + token.length());
                edges.fault(before, statement.substring(0, offset) + (word ? "1" : "a") + behind, 1, offset);
                edges.fault(before, statement.substring(0, offset) + "#" + behind, 1, offset);
                edges.fault(before, statement.substring(0, offset) + "-" + token + behind, 1, offset);
            }
            offset += token.length() + 1;
        }
    }

    private void theSemicolon() {
        check.sentence("each statement ends with a semicolon");
        for (String statement : STATEMENTS) {
            int end = statement.indexOf(';');
            String open = statement.substring(0, end);
            edges.taken(FOUR + open + ";", NoonCry::lateOrders, 0);
            edges.taken(FOUR + open.trim() + ";", NoonCry::lateOrders, 0);
            edges.fault(FOUR, open + "1;", 1, end);
            edges.fault(FOUR, open + "cry;", 1, end);
            edges.fault(FOUR, open + ",", 1, end);
            edges.fault(FOUR, open + ";;", 1, end + 1);
        }
        edges.fault("market 5 50 0 time cry;", 1, 19);
        edges.fault("market 5 50 0 time 1;", 1, 19);
        edges.fault("market 5 50 0 time;;", 1, 19);
    }

    /** Both ends of a number's range in a text, and what the object then answers. */
    private void number(String before, int least, int most, String behind, Edges.Answer answer) {
        edges.taken(before + least + behind, answer, least);
        edges.taken(before + most + behind, answer, most);
        edges.taken(before + "00000000000" + most + behind, answer, most);
        wrongNumbers(before, least, most, behind);
    }

    private void wrongNumbers(String before, int least, int most, String behind) {
        int offset = before.length();
        if (least > 0) {
            edges.fault(before + (least - 1) + behind, 2, offset);
            edges.fault(before + "000" + behind, 2, offset);
        }
        edges.fault(before + (most + 1) + behind, 2, offset);
        edges.fault(before + most + "0" + behind, 2, offset);
        edges.fault(before + "99999999" + behind, 2, offset);
        String[] wraps = {"2147483647", "2147483648", "4294967296", "18446744073709551616"};
        for (String wrap : wraps) {
            java.math.BigInteger number = new java.math.BigInteger(wrap).add(java.math.BigInteger.valueOf(least));
            edges.fault(before + number + behind, 2, offset);
        }
    }

    private void numbersOfTheMarket() {
        check.sentence("market PERIOD: 1 to 60");
        number("market ", 1, 60, " 50 0 time;", NoonCry::minutesToCry);
        check.sentence("market PRICE: 1 to 999");
        number("market 5 ", 1, 999, " 0 time;", NoonCry::lastPrice);
        check.sentence("market BAND: 0 to 999");
        number("market 5 50 ", 0, 999, " time;", NoonCry::band);
    }

    private void numbersOfTraders() {
        check.sentence("trader COINS: 0 to 999999");
        number(Edges.HEAD + "trader c ", 0, 999999, " 1;", noon -> noon.coinsOf(2));
        number(Edges.HEAD + "trader c ", 0, 999999, " 1;", noon -> noon.freeCoins(2));
        check.sentence("trader GOODS: 0 to 9999");
        number(Edges.HEAD + "trader c 1 ", 0, 9999, ";", noon -> noon.goodsOf(2));
        number(Edges.HEAD + "trader c 1 ", 0, 9999, ";", noon -> noon.freeGoods(2));
    }

    private void numbersOfOrders() {
        for (String side : new String[] {"bid", "offer"}) {
            check.sentence(side + " LIMIT: 1 to 999");
            number(Edges.RICH + side + " a ", 1, 999, " 1 1;", noon -> noon.limitOf(0));
            check.sentence(side + " QUANTITY: 1 to 99");
            number(Edges.RICH + side + " a 7 ", 1, 99, " 1;", noon -> noon.quantityOf(0));
            check.sentence(side + " MINUTES: 0 to 999");
            number(Edges.RICH + side + " a 7 7 ", 0, 999, ";", noon -> noon.minutesLeft(0) - 1);
            number(Edges.RICH + "pass 300;" + side + " a 7 7 ", 0, 999, ";", noon -> noon.minutesLeft(0) - 1);
        }
    }

    private void numbersOfChanges() {
        String order = Edges.RICH + "offer a 7 99 9;";
        check.sentence("amend QUANTITY: 1 to 99, and less than that of the order");
        edges.taken(order + "amend 0 1;", noon -> noon.quantityOf(0), 1);
        edges.taken(order + "amend 0 98;", noon -> noon.quantityOf(0), 98);
        edges.fault(order, "amend 0 99;", 6, 8);
        wrongNumbers(order + "amend 0 ", 1, 99, ";");
        check.sentence("extend MINUTES: 0 to 999");
        number(order + "extend 0 ", 0, 999, ";", noon -> noon.minutesLeft(0) - 1);
        number(order + "pass 9;extend 0 ", 0, 999, ";", noon -> noon.minutesLeft(0) - 1);
        check.sentence("give GOODS: 1 to 9999");
        String two = Edges.RICH + "trader b 9 9999;";
        number(two + "give a b ", 1, 9999, ";", noon -> noon.goodsOf(1) - 9999);
        number(two + "give b a 9999;give a b ", 1, 9999, ";", noon -> noon.goodsOf(1));
    }

    private void numbersOfSettings() {
        check.sentence("period N: 1 to 60");
        number(Edges.HEAD + "period ", 1, 60, ";", NoonCry::minutesToCry);
        check.sentence("band N: 0 to 999");
        number(Edges.HEAD + "band ", 0, 999, ";", NoonCry::band);
        check.sentence("pass N: 0 to 300");
        number(Edges.HEAD + "pass ", 0, 300, ";", NoonCry::minute);
        edges.taken(Edges.HEAD + "pass 300;pass 300;pass 300;", NoonCry::minute, 900);
    }

    private void theWordsOfRules() {
        check.sentence("RULE: one of the words time and share, 4 for another word");
        for (String before : new String[] {"market 5 50 0 ", Edges.HEAD + "rule "}) {
            edges.taken(before + "time;", NoonCry::rule, 0);
            edges.taken(before + "share;", NoonCry::rule, 1);
            for (String word : new String[] {"tim", "times", "tome", "timeshare", "shar", "shares", "shore", "rule", "a", "z"}) {
                edges.fault(before, word + ";", 4, 0);
                edges.fault(before, word, 4, 0);
            }
            for (String token : new String[] {"0", "1", ";", "", "Time;", "#"}) {
                edges.fault(before, token, 1, 0);
            }
        }
        edges.taken(Edges.HEAD + "rule share;rule time;", NoonCry::rule, 0);
    }

    private void namesOfNewTraders() {
        check.sentence("a name of 1 to 4 letters, 2 for more");
        for (String name : new String[] {"c", "z", "cc", "ccc", "cccc", "zzzz", "ab", "ba", "aaaa", "time", "bid", "cry"}) {
            edges.taken(Edges.HEAD + "trader " + name + " 7 8;", noon -> noon.coinsOf(2), 7);
        }
        for (String name : new String[] {"ccccc", "aaaaa", "bbbbb", "trader", "c".repeat(300)}) {
            edges.fault(Edges.HEAD, "trader " + name + " 7 8;", 2, 7);
            edges.fault(Edges.HEAD, "trader " + name, 2, 7);
        }
        check.sentence("all names are different, 3 for one that another trader has");
        String names = "market 5 50 0 time;trader a 1 1;trader aa 1 1;trader aaa 1 1;trader aaaa 1 1;trader ab 1 1;trader b 1 1;";
        edges.taken(names, NoonCry::traderCount, 6);
        for (String name : new String[] {"a", "aa", "aaa", "aaaa", "ab", "b"}) {
            edges.fault(names, "trader " + name + " 1 1;", 3, 7);
            edges.fault(names, "trader " + name, 3, 7);
        }
        edges.taken(names + "trader ba 1 1;trader bb 1 1;", NoonCry::traderCount, 8);
    }

    private void traders() {
        check.sentence("4: a TRADER that does not exist");
        String[] before = {"bid ", "offer ", "clear ", "give ", "give a "};
        String[] behind = {" 1 1 1;", " 1 1 1;", ";", " a 1;", " 1;"};
        for (int statement = 0; statement < before.length; statement++) {
            for (String word : new String[] {"c", "ab", "ba", "bb", "aaaa", "aaaaa", "bbbbb", "trader", "a".repeat(256)}) {
                edges.fault(Edges.HEAD + before[statement], word + behind[statement], 4, 0);
                edges.fault(Edges.HEAD + before[statement], word, 4, 0);
            }
            for (String token : new String[] {"0", "1", ";", "#", "A"}) {
                edges.fault(Edges.HEAD + before[statement], token + behind[statement], 1, 0);
            }
        }
        edges.fault("market 5 50 0 time;", "clear a;", 4, 6);
        String eight = "market 5 50 0 time;" + "trader a 1 1;trader b 1 1;trader c 1 1;trader d 1 1;trader e 1 1;"
            + "trader f 1 1;trader g 1 1;trader hhhh 1 1;";
        edges.taken(eight + "bid hhhh 1 1 1;bid a 1 1 1;", noon -> noon.traderOf(0) * 10 + noon.traderOf(1), 70);
        edges.taken(eight + "give hhhh a 1;give b hhhh 1;", noon -> noon.goodsOf(0), 2);
        check.sentence("3: the second TRADER of a give statement that is the first one");
        edges.fault(Edges.HEAD, "give a a 1;", 3, 7);
        edges.fault(Edges.HEAD, "give b b 1;", 3, 7);
        edges.fault(eight, "give hhhh hhhh 1;", 3, 10);
        edges.fault(Edges.HEAD, "give c c 1;", 4, 5);
    }

    private void orders() {
        check.sentence("4: an ORDER that does not exist");
        String three = Edges.HEAD + "bid a 2 3 9;bid a 2 3 9;bid a 2 3 9;";
        String[] before = {"withdraw ", "amend ", "extend "};
        String[] behind = {";", " 1;", " 1;"};
        for (int statement = 0; statement < before.length; statement++) {
            edges.taken(three + before[statement] + "0" + behind[statement], noon -> noon.traderOf(2), 0);
            edges.taken(three + before[statement] + "2" + behind[statement], noon -> noon.traderOf(0), 0);
            edges.taken(three + before[statement] + "0002" + behind[statement], noon -> noon.traderOf(1), 0);
            for (String number : new String[] {"3", "20", "99", "256", "4294967296", "4294967298", "18446744073709551616"}) {
                edges.fault(three + before[statement], number + behind[statement], 4, 0);
            }
            edges.fault(three + "withdraw 0;" + before[statement], "0" + behind[statement], 4, 0);
            edges.fault(three + "withdraw 2;" + before[statement], "2" + behind[statement], 4, 0);
            edges.fault(three + "clear a;" + before[statement], "1" + behind[statement], 4, 0);
            edges.fault(three + "pass 10;" + before[statement], "1" + behind[statement], 4, 0);
            edges.fault(three + "offer a 2 3 9;cry;" + before[statement], "0" + behind[statement], 4, 0);
            edges.fault(three + "offer a 2 3 9;cry;" + before[statement], "3" + behind[statement], 4, 0);
            edges.taken(three + "pass 9;" + before[statement] + "1" + behind[statement], NoonCry::lateOrders, 0);
            edges.fault(Edges.HEAD + before[statement], "0" + behind[statement], 4, 0);
        }
    }

    private void theNinthTrader() {
        check.sentence("5: the word trader for a 9th trader");
        String seven = "market 5 50 0 time;trader a 1 1;trader b 1 1;trader c 1 1;trader d 1 1;trader e 1 1;trader f 1 1;trader g 1 1;";
        String eight = seven + "trader h 8 9;";
        edges.taken(seven, NoonCry::traderCount, 7);
        edges.taken(eight, NoonCry::traderCount, 8);
        edges.taken(eight, noon -> noon.goodsOf(7), 9);
        for (String text : new String[] {"trader i 1 1;", "trader", "trader;", "trader a 1 1;", "trader abcde", "trader 5"}) {
            edges.fault(eight, text, 5, 0);
        }
        edges.fault(eight, "traders i 1 1;", 1, 0);
        edges.fault(seven, "trader abcde 1 1;", 2, 7);
    }

    private void theTwentyFirstOrder() {
        check.sentence("5: the word bid or offer if there are 20 orders");
        String nineteen = Edges.HEAD + "bid a 1 1 3;".repeat(19);
        String twenty = nineteen + "bid a 1 1 3;";
        edges.taken(twenty, NoonCry::orderCount, 20);
        edges.taken(nineteen + "offer a 9 9 9;", NoonCry::orderCount, 20);
        for (String text : new String[] {"bid a 1 1 1;", "offer a 1 1 1;", "bid", "offer", "bid;", "offer 7", "bid x", "bid a 0"}) {
            edges.fault(twenty, text, 5, 0);
            edges.fault(nineteen + "offer a 9 9 9;", text, 5, 0);
        }
        for (String word : new String[] {"bids", "offers", "bi", "offe"}) {
            edges.fault(twenty, word + " a 1 1 1;", 1, 0);
        }
        for (String less : new String[] {"withdraw 0;", "withdraw 19;", "clear a;", "pass 4;"}) {
            edges.taken(twenty + less + "bid a 1 1 1;", noon -> noon.orderAt(noon.orderCount() - 1), 20);
        }
        edges.fault(twenty + "pass 3;", "bid a 1 1 1;", 5, 0);
        edges.taken(nineteen + "offer a 1 1 9;cry;bid a 1 1 1;", noon -> noon.orderAt(18), 20);
    }

    private void refusedBids() {
        check.sentence("6: the QUANTITY of a bid that is refused, 2 free coins are not enough");
        edges.taken(Edges.HEAD + "bid a 10 10 9;", noon -> noon.freeCoins(0), 0);
        edges.taken(Edges.HEAD + "bid b 50 1 9;", noon -> noon.freeCoins(1), 0);
        edges.fault(Edges.HEAD, "bid b 51 1 9;", 6, 9);
        edges.fault(Edges.HEAD, "bid b 17 3 9;", 6, 9);
        edges.fault(Edges.HEAD + "bid a 10 9 9;", "bid a 11 1 9;", 6, 9);
        edges.taken(Edges.HEAD + "bid a 10 9 9;bid a 10 1 9;", noon -> noon.freeCoins(0), 0);
        edges.fault(Edges.HEAD + "bid a 10 10 9;", "bid a 1 1 9;", 6, 8);
        edges.taken(Edges.HEAD + "bid a 10 10 9;withdraw 0;bid a 10 10 9;", noon -> noon.freeCoins(0), 0);
        edges.taken(Edges.HEAD + "bid a 10 10 9;amend 0 9;bid a 10 1 9;", noon -> noon.freeCoins(0), 0);
        edges.fault(Edges.HEAD + "bid a 10 10 9;amend 0 9;", "bid a 11 1 9;", 6, 9);
        edges.taken("market 1 1 0 time;trader a 98901 0;bid a 999 99 9;", noon -> noon.freeCoins(0), 0);
        edges.fault("market 1 1 0 time;trader a 98900 0;", "bid a 999 99 9;", 6, 10);
        edges.fault("market 1 1 0 time;trader a 0 9999;", "bid a 1 1 9;", 6, 8);
        edges.fault(Edges.HEAD, "bid b 51 1", 6, 9);
        edges.fault(Edges.HEAD, "bid b 51 1 1000;", 6, 9);
    }

    private void refusedOffers() {
        check.sentence("6: the QUANTITY of an offer that is refused, the free goods are not enough");
        edges.taken(Edges.HEAD + "offer a 999 9 9;", noon -> noon.freeGoods(0), 0);
        edges.fault(Edges.HEAD, "offer a 1 10 9;", 6, 10);
        edges.fault(Edges.HEAD, "offer b 1 1 9;", 6, 10);
        edges.taken(Edges.HEAD + "offer a 1 8 9;offer a 1 1 9;", noon -> noon.freeGoods(0), 0);
        edges.fault(Edges.HEAD + "offer a 1 8 9;", "offer a 1 2 9;", 6, 10);
        edges.taken(Edges.HEAD + "offer a 1 9 9;amend 0 8;offer a 1 1 9;", noon -> noon.freeGoods(0), 0);
        edges.taken("market 1 1 0 time;trader a 0 99;offer a 999 99 9;", noon -> noon.freeGoods(0), 0);
        edges.fault("market 1 1 0 time;trader a 999999 98;", "offer a 1 99 9;", 6, 10);
        edges.taken(Edges.HEAD + "give a b 1;offer b 1 1 9;", noon -> noon.freeGoods(1), 0);
        edges.fault(Edges.HEAD + "give a b 1;", "offer a 1 9 9;", 6, 10);
        edges.taken(Edges.HEAD + "bid b 5 1 9;offer a 5 1 9;cry;offer b 5 1 9;", noon -> noon.freeGoods(1), 0);
    }

    private void amendedQuantities() {
        check.sentence("6: the QUANTITY of an amend statement that is not less than that of the order");
        edges.taken(FOUR + "amend 0 3;", noon -> noon.freeCoins(0), 85);
        edges.taken(FOUR + "amend 0 3;amend 0 2;amend 0 1;", noon -> noon.freeCoins(0), 95);
        edges.fault(FOUR, "amend 0 4;", 6, 8);
        edges.fault(FOUR, "amend 0 5;", 6, 8);
        edges.fault(FOUR, "amend 0 99;", 6, 8);
        edges.fault(FOUR + "amend 0 1;", "amend 0 1;", 6, 8);
        edges.fault(Edges.HEAD + "bid a 5 1 9;", "amend 0 1;", 6, 8);
        edges.fault(FOUR + "offer a 5 1 9;cry;", "amend 0 3;", 6, 8);
        edges.taken(FOUR + "offer a 5 1 9;cry;amend 0 2;", noon -> noon.quantityOf(0), 2);
        edges.taken(Edges.HEAD + "offer a 5 4 9;amend 0 1;", noon -> noon.freeGoods(0), 8);
    }

    private void givenGoods() {
        check.sentence("6: the GOODS of a give statement that are more than the free goods of the first trader");
        edges.taken(Edges.HEAD + "give a b 9;", noon -> noon.goodsOf(0), 0);
        edges.fault(Edges.HEAD, "give a b 10;", 6, 9);
        edges.fault(Edges.HEAD, "give b a 1;", 6, 9);
        edges.taken(Edges.HEAD + "offer a 1 4 9;give a b 5;", noon -> noon.freeGoods(0), 0);
        edges.fault(Edges.HEAD + "offer a 1 4 9;", "give a b 6;", 6, 9);
        edges.taken(Edges.HEAD + "offer a 1 4 9;amend 0 3;give a b 6;", noon -> noon.freeGoods(0), 0);
        edges.taken(Edges.HEAD + "offer a 1 4 9;withdraw 0;give a b 9;", noon -> noon.goodsOf(1), 9);
        edges.fault(Edges.HEAD + "give a b 9;", "give a b 1;", 6, 9);
        edges.taken(Edges.HEAD + "give a b 9;give b a 9;", noon -> noon.goodsOf(0), 9);
        String two = "market 5 50 0 time;trader a 1 9999;trader b 1 1;give a b 9999;";
        edges.taken(two + "give b a 9999;", noon -> noon.goodsOf(1), 1);
        edges.fault(two, "give b a 10000;", 2, 9);
    }

    private void theSmallestCode() {
        check.sentence("if a token has several errors, the smallest error code is reported");
        edges.fault(Edges.HEAD, "bid b 51 100 1;", 2, 9);
        edges.fault(Edges.HEAD, "bid b 999 0 1;", 2, 10);
        edges.fault(Edges.HEAD, "offer b 1 100 1;", 2, 10);
        edges.fault(FOUR, "amend 0 100;", 2, 8);
        edges.fault(FOUR, "amend 0 0;", 2, 8);
        edges.fault(Edges.HEAD, "give b a 0;", 2, 9);
        edges.fault(Edges.HEAD, "give b a 10000;", 2, 9);
        edges.fault(Edges.HEAD, "bid b 51 x 1;", 1, 9);
        edges.fault(FOUR, "amend 0 x;", 1, 8);
        edges.fault("trader abcde 1 1;", 1, 0);
    }

    private void theFirstToken() {
        check.sentence("parsing stops at the first token that has an error");
        edges.fault("market 61 1000 1000 luck", 2, 7);
        edges.fault("market 60 1000 1000 luck", 2, 10);
        edges.fault("market 60 999 1000 luck", 2, 14);
        edges.fault("market 60 999 999 luck", 4, 18);
        edges.fault(Edges.HEAD, "trader a 1000000 10000", 3, 7);
        edges.fault(Edges.HEAD, "trader c 1000000 10000", 2, 9);
        edges.fault(Edges.HEAD, "bid c 1000 100 1000", 4, 4);
        edges.fault(Edges.HEAD, "bid a 1000 100 1000", 2, 6);
        edges.fault(Edges.HEAD, "bid a 101 1 1000", 6, 10);
        edges.fault(Edges.HEAD, "bid a 100 1 1000", 2, 12);
        edges.fault(Edges.HEAD, "give c a 0", 4, 5);
        edges.fault(Edges.HEAD, "give a a 0", 3, 7);
        edges.fault(Edges.HEAD, "amend 0 100", 4, 6);
        edges.fault(Edges.HEAD, "cry;cries;market;#", 1, 4);
        check.sentence("the error offset is that of the first byte, at the end the length of the text");
        edges.fault("market 5 50 0   \n  timeless;", 4, 19);
        edges.fault("market 5 50 0   \n  ", 1, 19);
        edges.fault("market 5 50 0 time", 1, 18);
    }

    private void inOrder() {
        check.sentence("the statements are carried out in order");
        edges.taken(Edges.HEAD + "band 3;band 4;", NoonCry::band, 4);
        edges.taken(Edges.HEAD + "period 7;pass 3;", NoonCry::minutesToCry, 4);
        edges.taken(Edges.HEAD + "pass 3;period 2;", NoonCry::minutesToCry, 1);
        edges.taken(Edges.HEAD + "bid a 9 1 0;offer a 9 1 9;pass 1;cry;", NoonCry::tradedPieces, 0);
        edges.taken(Edges.HEAD + "bid a 9 1 0;offer a 9 1 9;cry;pass 1;", NoonCry::tradedPieces, 1);
        edges.taken(Edges.HEAD + "trader c 1 1;give c a 1;trader d 1 1;", noon -> noon.goodsOf(0), 10);
        edges.fault(Edges.HEAD, "give c a 1;trader c 1 1;", 4, 5);
        check.sentence("clear: all orders of the trader go, and no other ones");
        edges.taken(Edges.HEAD + "bid a 9 1 9;bid b 9 1 9;offer a 99 1 9;clear a;", noon -> noon.orderAt(0), 1);
        edges.taken(Edges.HEAD + "bid b 9 1 9;clear a;", NoonCry::orderCount, 1);
        edges.taken(Edges.HEAD + "bid a 9 9 9;offer a 99 9 9;clear a;", noon -> noon.freeCoins(0) + noon.freeGoods(0), 109);
        check.sentence("extend: the last minute becomes the minute number plus MINUTES");
        edges.taken(Edges.HEAD + "bid a 9 1 9;pass 2;extend 0 0;pass 1;", NoonCry::lateOrders, 1);
        edges.taken(Edges.HEAD + "bid a 9 1 2;pass 2;extend 0 1;pass 1;", noon -> noon.minutesLeft(0), 1);
        check.sentence("pass 0: no minute passes");
        edges.taken("market 1 50 0 time;trader a 9 9;bid a 9 1 0;offer a 9 1 0;pass 0;", NoonCry::orderCount, 2);
    }
}
