import java.util.function.Supplier;

/** What the tests of the boundaries share: refused calls, faults in texts, and a look at everything. */
final class Edges {
    static final int MIN = Integer.MIN_VALUE;
    static final int MAX = Integer.MAX_VALUE;
    static final Class<IllegalArgumentException> ARGUMENT = IllegalArgumentException.class;
    static final Class<IllegalStateException> STATE = IllegalStateException.class;
    static final Class<IndexOutOfBoundsException> INDEX = IndexOutOfBoundsException.class;
    static final Class<java.util.NoSuchElementException> ELEMENT = java.util.NoSuchElementException.class;

    /** The text of a new object, as the document gives it. */
    static final String FIRST = "market 5 50 20 time;trader amy 2000 10;trader ben 3000 0;trader cal 500 40;"
        + "trader dot 900 25;bid amy 60 8 9;bid ben 55 12 9;offer cal 48 10 9;offer dot 52 15 9;offer cal 58 6 9;"
        + "bid dot 50 5 9;pass 5;bid ben 53 4 20;offer dot 53 5 20;";
    /** Two traders, the second one without goods. */
    static final String HEAD = "market 5 50 0 time;trader a 100 9;trader b 50 0;";
    /** One trader with all that a text can give. */
    static final String RICH = "market 60 50 0 time;trader a 999999 9999;";

    interface Call {
        Object on(NoonCry noon);
    }

    interface CallWith {
        Object on(NoonCry noon, int value);
    }

    interface Answer {
        int of(NoonCry noon);
    }

    final Check check;
    private final String first = Check.state(new NoonCry());
    private final String everything = everything(busy());

    Edges(Check check) {
        this.check = check;
    }

    /** An object in which everything is there: changes to undo, both slots, an output, an error, a text to load. */
    static NoonCry busy() {
        NoonCry noon = new NoonCry();
        noon.setBand(7);
        noon.save(0);
        noon.place(0, 1, 51, 3, 2);
        noon.setRule(1);
        noon.save(1);
        noon.pay(2, 5);
        noon.withdraw(4);
        noon.printSide(1);
        Check.load(noon, "market 5 50 0 luck;");
        Check.write(noon, "market 9 8 7 share;");
        return noon;
    }

    /** All answers that show the state in few calls. */
    private static String brief(NoonCry noon) {
        StringBuilder text = new StringBuilder("\n");
        text.append(noon.minute()).append(' ').append(noon.lastPrice()).append(' ').append(noon.band());
        text.append(' ').append(noon.rule()).append(' ').append(noon.minutesToCry()).append(' ').append(noon.tradedPieces());
        text.append(' ').append(noon.stoppedCries()).append(' ').append(noon.lateOrders()).append(' ').append(noon.tradedShare());
        for (int trader = noon.traderCount() - 1; trader >= 0; trader--) {
            text.append(' ').append(noon.coinsOf(trader)).append(' ').append(noon.freeGoods(trader));
        }
        for (int index = noon.orderCount() - 1; index >= 0; index--) {
            int order = noon.orderAt(index);
            text.append(' ').append(order).append(' ').append(noon.quantityOf(order));
        }
        return text.toString();
    }

    /** State, error, output, changes to undo, slots and buffer in one text; the object is used up by it. */
    static String everything(NoonCry noon) {
        StringBuilder text = new StringBuilder(Check.state(noon));
        text.append('\n').append(noon.errorCode()).append(' ').append(noon.errorOffset()).append(' ');
        text.append(wholeOutput(noon));
        for (int undone = 0; undone < 9; undone++) {
            String answer = Check.answer(noon::undo);
            text.append('\n').append(answer);
            if (answer.startsWith("throws")) {
                break;
            }
            text.append(brief(noon));
        }
        for (int slot = 0; slot < 2; slot++) {
            int which = slot;
            text.append('\n').append(Check.answer(() -> noon.restore(which))).append(brief(noon));
        }
        text.append('\n').append(noon.load()).append(' ').append(noon.errorCode()).append(' ').append(noon.errorOffset());
        return text.append(brief(noon)).toString();
    }

    static String wholeOutput(NoonCry noon) {
        StringBuilder text = new StringBuilder();
        for (int index = 0; index < 600; index++) {
            int at = index;
            String answer = Check.answer(() -> noon.outputByte(at));
            if (answer.startsWith("throws")) {
                break;
            }
            text.append((char) Integer.parseInt(answer));
        }
        return text.toString();
    }

    /** A refused call throws this, and leaves everything as it was. */
    void refused(String what, Class<? extends RuntimeException> kind, Call call) {
        NoonCry noon = busy();
        check.fails(what, kind, () -> call.on(noon));
        check.sameText("everything behind " + what, everything(noon), everything);
    }

    void refused(String what, Class<? extends RuntimeException> kind, Supplier<NoonCry> maker, Call call) {
        NoonCry noon = maker.get();
        check.fails(what, kind, () -> call.on(noon));
        check.sameText("everything behind " + what, everything(noon), everything(maker.get()));
    }

    /** A call that is no change leaves everything as it was. */
    void changesNothing(String what, Call call) {
        NoonCry noon = busy();
        String answer = Check.answer(() -> call.on(noon));
        check.isFalse(what + " throws", answer.startsWith("throws"));
        check.sameText(what + " again", Check.answer(() -> call.on(noon)), answer);
        check.sameText("everything behind " + what, everything(noon), everything);
    }

    /** The first values on both sides of a range are refused, and those that a shorter number would make good. */
    void outside(String what, Class<? extends RuntimeException> kind, int least, int most, CallWith call) {
        for (int value : new int[] {least - 1, most + 1, MIN, MAX, MIN + least, 256 + least, 65536 + least, -most - 1}) {
            if (value < least || value > most) {
                refused(what + " of " + value, kind, noon -> call.on(noon, value));
            }
        }
    }

    /** An object that answers both ends of a range. */
    void inside(String what, int least, int most, CallWith call, int dueLeast, int dueMost) {
        check.sameText(what + " of " + least, Check.answer(() -> call.on(busy(), least)), "" + dueLeast);
        check.sameText(what + " of " + most, Check.answer(() -> call.on(busy(), most)), "" + dueMost);
    }

    /** A text that is taken, and an answer of the object behind it. */
    void taken(String text, Answer answer, int due) {
        NoonCry noon = new NoonCry();
        int count = Check.load(noon, text);
        check.isTrue("load of " + text, count >= 0);
        check.same("orders of " + text, noon.orderCount(), count);
        check.same("code of " + text, noon.errorCode(), 0);
        check.same("offset of " + text, noon.errorOffset(), -1);
        check.sameText("behind " + text, Check.answer(() -> answer.of(noon)), "" + due);
    }

    /** A text with an error leaves the state and the changes as they were. */
    void fault(String text, int code, int offset) {
        NoonCry noon = new NoonCry();
        check.same("load of " + text, Check.load(noon, text), -7);
        check.same("code of " + text, noon.errorCode(), code);
        check.same("offset of " + text, noon.errorOffset(), offset);
        check.sameText("state behind " + text, Check.state(noon), first);
        check.fails("undo behind " + text, STATE, noon::undo);
    }

    /** A fault in the second part of a text, told from its begin. */
    void fault(String before, String text, int code, int offset) {
        fault(before + text, code, before.length() + offset);
    }
}
