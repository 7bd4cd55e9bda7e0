import java.lang.reflect.InvocationTargetException;
import java.lang.reflect.Method;
import java.util.ArrayList;
import java.util.List;
import java.util.Random;

/** Runs of calls by fixed seeds, answered by NoonCry and by PlainMarket; they must agree. */
public final class RandomTest {
    private static final Check check = new Check("RandomTest");
    private static final String FIRST = "market 5 50 20 time;trader amy 2000 10;trader ben 3000 0;trader cal 500 40;"
        + "trader dot 900 25;bid amy 60 8 9;bid ben 55 12 9;offer cal 48 10 9;offer dot 52 15 9;offer cal 58 6 9;"
        + "bid dot 50 5 9;pass 5;bid ben 53 4 20;offer dot 53 5 20;";
    private static final String[] QUESTIONS = {"errorCode", "errorOffset", "minute", "lastPrice", "band", "rule",
        "minutesToCry", "traderCount", "orderCount", "bestBid", "bestOffer", "cryPrice", "cryVolume", "wouldStop",
        "partialFills", "tradedPieces", "goodCries", "stoppedCries", "lateOrders", "coinDifference",
        "goodDifference", "tradedShare", "meanPrice"};

    // what later calls of an object answer is free
    private static final int MOST_CALLS = 512;

    private final Random random;
    private final int asked;
    private final NoonCry noon = new NoonCry();
    private final PlainMarket plain = new PlainMarket(FIRST);
    private final List<String> calls = new ArrayList<>();
    private static final java.util.Map<String, Method> methods = new java.util.HashMap<>();

    private RandomTest(long seed) {
        random = new Random(seed);
        asked = 1 + upTo(9);
    }

    public static void main(String[] args) {
        for (Method method : NoonCry.class.getDeclaredMethods()) {
            if (java.lang.reflect.Modifier.isPublic(method.getModifiers())) {
                methods.put(method.getName(), method);
            }
        }
        int runs = args.length > 0 ? Integer.parseInt(args[0]) : 700;
        for (int run = 0; run < runs; run++) {
            new RandomTest(run).run();
        }
        check.finish();
    }

    private void run() {
        while (calls.size() < MOST_CALLS) {
            if (!oneStep()) {
                System.out.println(String.join("\n", calls));
                return;
            }
        }
    }

    private int upTo(int most) {
        return random.nextInt(most + 1);
    }

    private int odd(int usual) {
        int[] strange = {-1, 0, 1, 999, 1000, 100, 99, 8, Integer.MIN_VALUE, Integer.MAX_VALUE};
        return upTo(30) == 0 ? strange[upTo(strange.length - 1)] : usual;
    }

    private boolean both(String name, int... given) {
        if (calls.size() >= MOST_CALLS) {
            return true;
        }
        String call = name + java.util.Arrays.toString(given);
        calls.add(call);
        String want = Check.answer(() -> plain.call(name, given));
        String got = answer(name, given);
        check.sameText(call, got, want);
        return got.equals(want);
    }

    private String answer(String name, int[] given) {
        Object[] boxed = java.util.Arrays.stream(given).boxed().toArray();
        try {
            return String.valueOf(methods.get(name).invoke(noon, boxed));
        } catch (InvocationTargetException e) {
            return "throws " + e.getCause().getClass().getName();
        } catch (IllegalAccessException e) {
            throw new AssertionError(e);
        }
    }

    private boolean oneStep() {
        int kind = upTo(99);
        if (kind < 5) {
            return loadOne();
        }
        if (kind < 45) {
            int near = random.nextBoolean() ? 40 + upTo(30) : 1 + upTo(998);
            int quantity = random.nextBoolean() ? 1 + upTo(8) : 1 + upTo(98);
            return both("place", odd(upTo(3)), odd(upTo(1)), odd(near), odd(quantity), odd(upTo(20))) && askAll();
        }
        if (kind < 50) {
            return both("withdraw", odd(someOrder())) && askAll();
        }
        if (kind < 60) {
            return both("cry") && askAll();
        }
        if (kind < 68) {
            return both("pass", odd(1 + upTo(upTo(9) == 0 ? 299 : 5))) && askAll();
        }
        if (kind < 73) {
            return both("setBand", odd(upTo(1) * upTo(20)));
        }
        if (kind < 78) {
            return both("setRule", odd(upTo(1)));
        }
        if (kind < 84) {
            return both("pay", odd(upTo(3)), odd(1 + upTo(upTo(1) == 0 ? 99998 : 999)));
        }
        if (kind < 88) {
            return both("save", odd(upTo(1)));
        }
        if (kind < 91) {
            return both("restore", odd(upTo(1))) && askAll();
        }
        return both("undo") && askAll();
    }

    private int someOrder() {
        int count = plain.state.orders.size();
        return count == 0 ? 0 : orderAt(upTo(count - 1));
    }

    private int orderAt(int index) {
        return plain.state.orders.get(index).number();
    }

    /** Few questions between changes in one run, many in another one. */
    private boolean ask(String name, int... given) {
        return upTo(asked) != 0 || both(name, given);
    }

    private boolean askAll() {
        boolean good = true;
        for (String question : QUESTIONS) {
            good &= ask(question);
        }
        for (int trader = 0; trader < plain.state.traders.size(); trader++) {
            for (String question : new String[] {"coinsOf", "goodsOf", "freeCoins", "freeGoods", "coinsAfterCry"}) {
                good &= ask(question, trader);
            }
        }
        for (int index = 0; index < plain.state.orders.size(); index++) {
            good &= ask("orderAt", index);
            for (String question : new String[] {"traderOf", "sideOf", "limitOf", "quantityOf", "minutesLeft", "rankOf",
                "fillOf", "worthOf", "priceWithout", "volumeWithout"}) {
                good &= ask(question, orderAt(index));
            }
        }
        return good && askOne();
    }

    private boolean askOne() {
        int price = odd(random.nextBoolean() ? 40 + upTo(30) : 1 + upTo(998));
        int quantity = odd(1 + upTo(98));
        int side = odd(upTo(1));
        boolean good = ask("demandAt", price) & ask("supplyAt", price) & ask("volumeAt", price) & ask("excessAt", price);
        good &= ask("lastLimit", odd(0)) & ask("lastLimit", odd(1));
        good &= ask("priceWith", side, price, quantity) & ask("fillWith", side, price, quantity);
        good &= ask("priceToBuy", quantity) & ask("priceToSell", odd(1 + upTo(20)));
        good &= ask("orderRefusal", odd(upTo(4)), side, price, quantity);
        good &= ask("printSide", odd(upTo(1)));
        for (int index = -1; index < plain.output.length() + 1; index++) {
            good &= ask("outputByte", index);
        }
        return good;
    }

    private boolean loadOne() {
        String text = text();
        boolean good = true;
        int from = 0;
        for (; from < text.length() && from < 600; from += 20) {
            int[] four = new int[5];
            for (int at = 0; at < 20; at++) {
                int sign = from + at < text.length() ? text.charAt(from + at) : ' ';
                four[at / 4] |= sign << 8 * (3 - at % 4);
            }
            good &= both("append", four);
        }
        if (upTo(5) != 0) {
            good &= both("truncate", odd(Math.min(text.length(), from)));
        }
        return good & both("load") & askAll();
    }

    private String text() {
        StringBuilder text = new StringBuilder();
        text.append("market ").append(1 + upTo(9)).append(' ').append(40 + upTo(30)).append(' ').append(upTo(1) * upTo(20));
        text.append(random.nextBoolean() ? " share;" : " time;");
        String[] names = {"a", "b", "cc", "ddd", "eeee"};
        for (int trader = 0; trader < 1 + upTo(4); trader++) {
            text.append("trader ").append(names[trader]).append(' ').append(upTo(9999)).append(' ').append(upTo(200)).append(';');
        }
        for (int more = upTo(60); more > 0 && text.length() < 570; more--) {
            int before = text.length();
            statement(text, names);
            if (upTo(99) != 0 && !isGood(text)) {
                text.setLength(before);
            }
        }
        for (int changes = upTo(3) - 1; changes > 0; changes--) {
            String signs = " \n;a0z9bidq#7\u00e9";
            int at = upTo(text.length() - 1);
            text.setCharAt(at, signs.charAt(upTo(signs.length() - 1)));
        }
        return text.toString();
    }

    private static boolean isGood(CharSequence text) {
        return new PlainText(text.toString().getBytes(java.nio.charset.StandardCharsets.ISO_8859_1)).read() != null;
    }

    private void statement(StringBuilder text, String[] names) {
        String name = names[upTo(upTo(4))];
        String order = String.valueOf(upTo(upTo(12)));
        switch (upTo(14)) {
            case 0: text.append("withdraw ").append(order); break;
            case 1: text.append("amend ").append(order).append(' ').append(upTo(6)); break;
            case 2: text.append("extend ").append(order).append(' ').append(upTo(9)); break;
            case 3: text.append("give ").append(name).append(' ').append(names[upTo(4)]).append(' ').append(upTo(20)); break;
            case 4: text.append("pass ").append(upTo(6)); break;
            case 5: text.append("cry"); break;
            case 6:
                String[] rare = {"clear " + name, "period 3", "rule share", "rule time", "band 4", "band 0", "trader f 9 9"};
                text.append(rare[upTo(rare.length - 1)]);
                break;
            default:
                text.append(random.nextBoolean() ? "bid " : "offer ").append(name).append(' ').append(45 + upTo(10));
                text.append(' ').append(1 + upTo(9)).append(' ').append(upTo(12));
                break;
        }
        text.append(upTo(3) == 0 ? " ;\n" : ";");
    }
}
