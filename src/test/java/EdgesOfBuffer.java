/** The boundaries of promises 1 to 6: a new object, the input buffer, load, and what it tells of an error. */
final class EdgesOfBuffer {
    private final Edges edges;
    private final Check check;

    EdgesOfBuffer(Edges edges) {
        this.edges = edges;
        check = edges.check;
    }

    void run() {
        newObject();
        appendReturnsTheLength();
        appendPutsTheMostSignificantByteFirst();
        appendHoldsSixHundredBytes();
        truncateTakes();
        truncateRefuses();
        loadEmptiesTheBuffer();
        loadAnswersTheOrders();
        loadOfTheEmptyAndTheFullText();
        loadReplacesTheState();
        loadBeginsAnew();
        loadKeepsTheRest();
        aBadLoadKeepsAll();
        errorOfTheLatestLoad();
        errorStaysUntilTheNextLoad();
    }

    private void newObject() {
        check.promise(1, "the state described above");
        check.sameText("state", Check.state(new NoonCry()), Check.state(Check.loaded(Edges.FIRST)));
        check.same("the next number", new NoonCry().place(0, 0, 1, 1, 0), 8);
        check.promise(1, "an empty input buffer");
        NoonCry noon = new NoonCry();
        check.same("truncate 0", noon.truncate(0), 0);
        check.fails("truncate 1", Edges.ARGUMENT, () -> noon.truncate(1));
        check.same("load", noon.load(), -7);
        check.same("offset", noon.errorOffset(), 0);
        check.promise(1, "no error");
        check.same("code", new NoonCry().errorCode(), 0);
        check.same("offset", new NoonCry().errorOffset(), -1);
        check.promise(1, "an empty output text");
        check.fails("outputByte", Edges.ELEMENT, () -> new NoonCry().outputByte(0));
        check.promise(1, "no saved states");
        check.fails("restore 0", Edges.STATE, () -> new NoonCry().restore(0));
        check.fails("restore 1", Edges.STATE, () -> new NoonCry().restore(1));
        check.promise(1, "no change to undo");
        check.fails("undo", Edges.STATE, () -> new NoonCry().undo());
        check.promise(1, "one object has nothing of another");
        NoonCry other = Edges.busy();
        check.sameText("state", Check.state(new NoonCry()), Check.state(Check.loaded(Edges.FIRST)));
        check.same("band of the other", other.band(), 7);
    }

    private void appendReturnsTheLength() {
        check.promise(2, "returns the new length");
        NoonCry noon = new NoonCry();
        for (int length = 20; length <= 600; length += 20) {
            check.same("append", noon.append(0, MARK, 0, -1, 0), length);
        }
        NoonCry odd = new NoonCry();
        odd.append(0, 0, 0, 0, 0);
        odd.truncate(1);
        check.same("behind one byte", odd.append(0, 0, 0, 0, 0), 21);
    }

    private static final int SPACES = 0x20202020;
    private static final int MARK = 0x23232323;

    private void appendPutsTheMostSignificantByteFirst() {
        check.promise(2, "the most significant byte first");
        for (int at = 0; at < 20; at++) {
            for (int sign : new int[] {0, 31, 33, 127, 128, 255}) {
                int[] four = {SPACES, SPACES, SPACES, SPACES, SPACES};
                int shift = 8 * (3 - at % 4);
                four[at / 4] = four[at / 4] & ~(255 << shift) | sign << shift;
                NoonCry noon = new NoonCry();
                noon.append(four[0], four[1], four[2], four[3], four[4]);
                check.same("load", noon.load(), -7);
                check.same("the byte " + sign + " at " + at, noon.errorOffset(), at);
            }
        }
    }

    private static NoonCry withBytes(int length) {
        NoonCry noon = new NoonCry();
        noon.setBand(3);
        Check.write(noon, Edges.HEAD + " ".repeat(length - Edges.HEAD.length()));
        return noon;
    }

    private void appendHoldsSixHundredBytes() {
        check.promise(2, "throws IllegalStateException if the buffer would hold more than 600 bytes");
        check.same("580 bytes", withBytes(580).append(0, 0, 0, 0, 0), 600);
        check.same("579 bytes", withBytes(579).append(0, 0, 0, 0, 0), 599);
        for (int length : new int[] {581, 582, 599, 600}) {
            edges.refused("append behind " + length, Edges.STATE, () -> withBytes(length),
                noon -> noon.append(MARK, MARK, MARK, MARK, MARK));
            NoonCry noon = withBytes(length);
            check.fails("append behind " + length, Edges.STATE, () -> noon.append(0, 0, 0, 0, 0));
            check.same("the length stays", noon.truncate(length), length);
            check.fails("the length stays", Edges.ARGUMENT, () -> noon.truncate(length + 1));
            check.same("the text stays", noon.load(), 0);
        }
        NoonCry again = withBytes(600);
        again.truncate(580);
        check.same("after a truncate", again.append(SPACES, SPACES, SPACES, SPACES, SPACES), 600);
        check.same("the whole text", again.load(), 0);
        check.same("after a load", again.append(0, 0, 0, 0, 0), 20);
    }

    private void truncateTakes() {
        check.promise(3, "shortens the buffer, returns the new length");
        NoonCry noon = withBytes(600);
        for (int length : new int[] {600, 600, 599, 300, 1, 0, 0}) {
            check.same("truncate", noon.truncate(length), length);
            check.fails("one more", Edges.ARGUMENT, () -> noon.truncate(length + 1));
        }
        Check.write(noon, Edges.HEAD + "cry;####");
        noon.truncate(Edges.HEAD.length() + 4);
        check.same("what is cut is not read", noon.load(), 0);
        Check.write(noon, Edges.HEAD + "bid a 1 99");
        noon.truncate(Edges.HEAD.length() + 9);
        // " 7;" and spaces go behind what was left
        noon.append(0x20373b20, SPACES, SPACES, SPACES, SPACES);
        check.same("what is cut is written over", noon.load(), 1);
        check.same("quantity", noon.quantityOf(0), 9);
    }

    private void truncateRefuses() {
        check.promise(3, "throws IllegalArgumentException if length is negative or greater than the current length");
        for (int length : new int[] {-1, -2, -600, Edges.MIN, Edges.MIN + 19, 20, 21, 600, 601, 256 + 19, 65536 + 19, Edges.MAX}) {
            edges.refused("truncate " + length, Edges.ARGUMENT, noon -> noon.truncate(length));
        }
        for (int length : new int[] {-1, 1, 600, Edges.MAX}) {
            edges.refused("truncate of nothing to " + length, Edges.ARGUMENT, NoonCry::new, noon -> noon.truncate(length));
        }
        edges.refused("truncate of the full buffer", Edges.ARGUMENT, () -> withBytes(600), noon -> noon.truncate(601));
        check.same("just the length", Edges.busy().truncate(19), 19);
    }

    private void loadEmptiesTheBuffer() {
        check.promise(4, "empties the buffer");
        NoonCry noon = new NoonCry();
        for (String text : new String[] {Edges.HEAD, Edges.HEAD + "cry", "#", Edges.HEAD + " ".repeat(600 - Edges.HEAD.length())}) {
            Check.load(noon, text);
            check.fails("truncate 1", Edges.ARGUMENT, () -> noon.truncate(1));
            check.same("truncate 0", noon.truncate(0), 0);
            check.same("load of nothing", noon.load(), -7);
            check.same("offset", noon.errorOffset(), 0);
        }
    }

    private void loadAnswersTheOrders() {
        check.promise(4, "returns the number of orders");
        String twenty = "bid a 1 1 9;".repeat(20);
        check.same("no order", Check.load(new NoonCry(), Edges.HEAD), 0);
        check.same("one order", Check.load(new NoonCry(), Edges.HEAD + "bid a 1 1 9;"), 1);
        check.same("20 orders", Check.load(new NoonCry(), Edges.HEAD + twenty), 20);
        check.same("those that stand", Check.load(new NoonCry(), Edges.HEAD + "bid a 1 1 9;bid a 1 1 9;withdraw 0;"), 1);
        check.same("those that stand", Check.load(new NoonCry(), Edges.HEAD + twenty + "clear a;"), 0);
        check.promise(4, "PARSE_ERROR if the text has an error");
        check.same("PARSE_ERROR", NoonCry.PARSE_ERROR, -7);
        check.same("load", Check.load(new NoonCry(), Edges.HEAD + "bid a 1 1 9"), -7);
    }

    private void loadOfTheEmptyAndTheFullText() {
        check.promise(4, "the empty text");
        edges.fault("", 1, 0);
        edges.fault(" ", 1, 1);
        edges.fault("\n", 1, 1);
        edges.fault(" ".repeat(600), 1, 600);
        check.promise(4, "the full text");
        String full = Edges.HEAD + " ".repeat(592 - Edges.HEAD.length());
        edges.taken(full + "band 77;", NoonCry::band, 77);
        edges.fault(full + "band 777", 1, 600);
        edges.fault(full + "band 77 ", 1, 600);
        edges.fault(full + "cry;cry#", 1, 599);
        edges.fault(full + "cry;   x", 1, 599);
        edges.taken("market " + "0".repeat(580) + "7 1 0 time;", NoonCry::minutesToCry, 7);
        check.promise(4, "a short text behind a long one");
        NoonCry noon = Check.loaded(full + "cry;cry;");
        check.same("load", Check.load(noon, "market 1 2 3 time"), -7);
        check.same("the end is that of the short one", noon.errorOffset(), 17);
    }

    private void loadReplacesTheState() {
        check.promise(4, "the state described by it replaces the current one");
        NoonCry noon = Edges.busy();
        noon.cry();
        noon.pass(300);
        noon.truncate(0);
        check.same("load", Check.load(noon, Edges.HEAD), 0);
        check.sameText("state", Check.state(noon), Check.state(Check.loaded(Edges.HEAD)));
        check.fails("a trader of before", Edges.INDEX, () -> noon.coinsOf(2));
        check.fails("an order of before", Edges.ELEMENT, () -> noon.limitOf(3));
        check.same("numbers from 0", noon.place(0, 0, 1, 1, 0), 0);
        check.same("no trader, no order", Check.load(noon, "market 60 1 999 share;"), 0);
        check.sameText("state", Check.state(noon), Check.state(Check.loaded("market 60 1 999 share;")));
        check.fails("the only trader", Edges.INDEX, () -> noon.coinsOf(0));
    }

    private void loadBeginsAnew() {
        check.promise(4, "nothing of an earlier text is left, whether that one was good or not");
        String busy = "market 7 40 1 share;trader x 999 99;trader y 999 99;bid x 50 3 0;offer y 50 2 9;cry;band 0;cry;pass 2;offer y 9 9 9;";
        String[] texts = {"market 60 1 0 time;", Edges.HEAD, Edges.HEAD + "bid a 1 1 1;",
            Edges.HEAD + "bid b 9 2 1;offer a 9 1 1;cry;"};
        for (String text : texts) {
            NoonCry noon = new NoonCry();
            check.same("load", Check.load(noon, busy), 1);
            Check.load(noon, text);
            check.sameText("behind a good one", Check.state(noon), Check.state(Check.loaded(text)));
            NoonCry bad = new NoonCry();
            check.same("load", Check.load(bad, busy + "#"), -7);
            Check.load(bad, text);
            check.sameText("behind a bad one", Check.state(bad), Check.state(Check.loaded(text)));
            if (bad.traderCount() > 0) {
                check.same("the next number", bad.place(0, 1, 99, 1, 1), Check.loaded(text).place(0, 1, 99, 1, 1));
            }
        }
        NoonCry eight = Check.loaded("market 60 1 0 time;trader a 1 1;trader b 1 1;trader c 1 1;trader d 1 1;trader e 1 1;trader f 1 1;trader g 1 1;trader h 1 1;");
        check.same("names are free again", Check.load(eight, "market 60 1 0 time;trader h 1 1;trader a 1 1;"), 0);
        check.same("a trader of before", Check.load(eight, "market 60 1 0 time;trader a 1 1;clear b;"), -7);
        check.same("code", eight.errorCode(), 4);
    }

    private void loadKeepsTheRest() {
        check.promise(4, "the saved states, the output text and the earlier changes are kept");
        NoonCry noon = Edges.busy();
        check.same("load", noon.load(), 0);
        check.sameText("output", Edges.wholeOutput(noon), "amy@51x3 dot@52x5 dot@53x5");
        check.same("undo of the load", noon.undo(), 5);
        check.same("undo of the withdraw", noon.undo(), 4);
        check.same("it stands again", noon.quantityOf(4), 6);
        check.same("restore", noon.restore(0), 5);
        check.same("band", noon.band(), 7);
        check.same("orders", noon.orderCount(), 5);
        check.same("restore", noon.restore(1), 5);
        check.same("rule", noon.rule(), 1);
        check.promise(4, "a load that succeeds is a change, the seventh one drops the first");
        NoonCry seven = new NoonCry();
        for (int change = 0; change < 7; change++) {
            Check.load(seven, "market 9 9 " + change + " time;");
        }
        for (int left = 5; left >= 0; left--) {
            check.same("undo", seven.undo(), left);
            check.same("band", seven.band(), left);
        }
        check.fails("undo", Edges.STATE, seven::undo);
        check.same("the first load stays", seven.lastPrice(), 9);
    }

    private void aBadLoadKeepsAll() {
        check.promise(4, "a text with an error changes nothing");
        NoonCry noon = Edges.busy();
        noon.load();
        noon.undo();
        NoonCry bad = Edges.busy();
        bad.truncate(13);
        check.same("load", bad.load(), -7);
        String good = Edges.everything(noon).replaceFirst("\n0 -1 ", "\n1 13 ");
        check.sameText("everything", Edges.everything(bad), good);
        NoonCry late = Edges.busy();
        late.truncate(0);
        Check.load(late, Edges.HEAD + "bid a 2 2 2;cry;pass 9;period 7;band 1;rule share;give a b 3;cry");
        check.same("orders", late.orderCount(), 5);
        check.same("minute", late.minute(), 5);
        check.same("traders", late.traderCount(), 4);
        check.same("the next number", late.place(0, 0, 1, 1, 1), 9);
    }

    private void errorOfTheLatestLoad() {
        String[] texts = {"", "market 61", Edges.HEAD + "trader a 1 1;", Edges.HEAD + "clear c;",
            Edges.HEAD + "bid a 1 1 1;".repeat(20) + "bid", Edges.HEAD + "bid a 11 10 9;"};
        int[] offsets = {0, 7, Edges.HEAD.length() + 7, Edges.HEAD.length() + 6, Edges.HEAD.length() + 240, Edges.HEAD.length() + 9};
        NoonCry noon = new NoonCry();
        for (int code = 1; code <= 6; code++) {
            check.promise(5, "the code " + code);
            check.same("load", Check.load(noon, texts[code - 1]), -7);
            check.same("code", noon.errorCode(), code);
            check.promise(6, "the offset of an error " + code);
            check.same("offset", noon.errorOffset(), offsets[code - 1]);
            check.same("again", noon.errorOffset(), offsets[code - 1]);
        }
        check.promise(5, "0 if it succeeded");
        Check.load(noon, Edges.HEAD);
        check.same("code", noon.errorCode(), 0);
        check.promise(6, "-1 if it succeeded");
        check.same("offset", noon.errorOffset(), -1);
        check.promise(5, "0 if there was none");
        check.same("code", new NoonCry().errorCode(), 0);
        check.promise(6, "-1 if there was none");
        check.same("offset", new NoonCry().errorOffset(), -1);
    }

    private void errorStaysUntilTheNextLoad() {
        check.promise(5, "other calls leave it");
        NoonCry noon = Edges.busy();
        noon.undo();
        noon.restore(0);
        noon.truncate(0);
        noon.append(0, 0, 0, 0, 0);
        Check.answer(() -> noon.append(0, 0, 0, 0, 0));
        Check.answer(() -> noon.setBand(-1));
        noon.printSide(0);
        noon.cry();
        check.same("code", noon.errorCode(), 4);
        check.promise(6, "other calls leave it");
        check.same("offset", noon.errorOffset(), 14);
    }
}
