import java.util.BitSet;
import java.util.concurrent.Callable;

/** Compares answers with what is due, and brings texts into the input buffer. */
final class Check {
    private final String name;
    private final BitSet promises = new BitSet();
    private String sentence = "";
    private int sentences;
    private int calls;
    private int wrong;

    Check(String name) {
        this.name = name;
    }

    /** Begins the test of a sentence of a promise; what is wrong is told with it. */
    void promise(int number, String newSentence) {
        promises.set(number);
        sentence("Promise " + number + ", " + newSentence);
    }

    /** Begins the test of a sentence of another part of the document. */
    void sentence(String newSentence) {
        sentences++;
        sentence = newSentence + ": ";
    }

    /** Each promise from 1 to the last one must have had a test of a sentence. */
    void needPromises(int last) {
        sentence = "";
        for (int number = 1; number <= last; number++) {
            isTrue("a sentence of promise " + number, promises.get(number));
        }
    }

    private void compare(String what, boolean same, Object got, Object want) {
        calls++;
        if (!same) {
            wrong++;
            System.out.println(name + ": " + sentence + what + " answered " + got + ", due is " + want);
        }
    }

    void same(String what, long got, long want) {
        compare(what, got == want, got, want);
    }

    void sameReal(String what, double got, double want) {
        compare(what, Double.compare(got, want) == 0, got, want);
    }

    void sameText(String what, String got, String want) {
        compare(what, got.equals(want), got, want);
    }

    void isTrue(String what, boolean got) {
        same(what, got ? 1 : 0, 1);
    }

    void isFalse(String what, boolean got) {
        same(what, got ? 1 : 0, 0);
    }

    void fails(String what, Class<? extends RuntimeException> kind, Callable<?> call) {
        sameText(what, answer(call), "throws " + kind.getName());
    }

    /** The answer of a call as a text; an exception answers its name. */
    static String answer(Callable<?> call) {
        try {
            return String.valueOf(call.call());
        } catch (Exception e) {
            return "throws " + e.getClass().getName();
        }
    }

    /** Prints what came out, and ends the program with 1 if an answer was wrong. */
    void finish() {
        String tests = sentences == 0 ? "" : sentences + " sentences, ";
        System.out.println(name + ": " + tests + calls + " answers, " + wrong + " wrong");
        if (wrong != 0) {
            System.exit(1);
        }
    }

    /** Puts a text of at most 600 signs behind what the buffer holds, which must be empty. */
    static void write(NoonCry noon, String text) {
        for (int from = 0; from < text.length(); from += 20) {
            StringBuilder piece = new StringBuilder(text.substring(from, Math.min(text.length(), from + 20)));
            while (piece.length() < 20) {
                piece.append(' ');
            }
            noon.append(four(piece, 0), four(piece, 4), four(piece, 8), four(piece, 12), four(piece, 16));
        }
        noon.truncate(text.length());
    }

    private static int four(CharSequence piece, int from) {
        return piece.charAt(from) << 24 | piece.charAt(from + 1) << 16 | piece.charAt(from + 2) << 8 | piece.charAt(from + 3);
    }

    static int load(NoonCry noon, String text) {
        write(noon, text);
        return noon.load();
    }

    /** A new object into which the text has been loaded. */
    static NoonCry loaded(String text) {
        NoonCry noon = new NoonCry();
        int answer = load(noon, text);
        if (answer < 0) {
            throw new AssertionError("a test's own text is wrong at " + noon.errorOffset() + ": " + text);
        }
        return noon;
    }

    static String output(NoonCry noon, int length) {
        StringBuilder text = new StringBuilder();
        for (int index = 0; index < length; index++) {
            text.append((char) noon.outputByte(index));
        }
        return text.toString();
    }

    /** All that undo brings back, as far as the face shows it, in one text. */
    static String state(NoonCry noon) {
        StringBuilder text = new StringBuilder();
        text.append(noon.minute()).append(' ').append(noon.lastPrice()).append(' ').append(noon.band());
        text.append(' ').append(noon.rule()).append(' ').append(noon.minutesToCry()).append('|');
        for (int trader = 0; trader < noon.traderCount(); trader++) {
            text.append(noon.coinsOf(trader)).append(' ').append(noon.goodsOf(trader)).append(' ');
            text.append(noon.freeCoins(trader)).append(' ').append(noon.freeGoods(trader)).append('|');
        }
        for (int index = 0; index < noon.orderCount(); index++) {
            int order = noon.orderAt(index);
            text.append(order).append(' ').append(noon.traderOf(order)).append(' ').append(noon.sideOf(order));
            text.append(' ').append(noon.limitOf(order)).append(' ').append(noon.quantityOf(order));
            text.append(' ').append(noon.minutesLeft(order)).append('|');
        }
        text.append(noon.tradedPieces()).append(' ').append(noon.goodCries()).append(' ').append(noon.stoppedCries());
        text.append(' ').append(noon.lateOrders()).append(' ').append(noon.coinDifference());
        text.append(' ').append(noon.goodDifference()).append(' ').append(noon.tradedShare());
        return text.append(' ').append(noon.meanPrice()).toString();
    }
}
