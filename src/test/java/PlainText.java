import java.util.ArrayList;
import java.util.List;
import java.util.regex.Matcher;
import java.util.regex.Pattern;

/** Reads a setup text for PlainMarket: cuts it into tokens by a pattern, and goes by a table of forms. */
final class PlainText {
    private static final Pattern TOKENS = Pattern.compile("[a-z]+|[0-9]+|[^ \\n]", Pattern.DOTALL);
    // n a new name, t a trader, u another trader, o an order, r a rule; a number's range is least-most
    private static final String[] FORMS = {
        "market 1-60 1-999 0-999 r", "trader n 0-999999 0-9999", "bid t 1-999 1-99 0-999", "offer t 1-999 1-99 0-999",
        "withdraw o", "amend o 1-99", "extend o 0-999", "clear t", "give t u 1-9999", "period 1-60", "rule r",
        "band 0-999", "pass 0-300", "cry"};

    private final List<String> tokens = new ArrayList<>();
    private final List<Integer> offsets = new ArrayList<>();
    private final PlainMarket.State state = new PlainMarket.State();
    int code;
    int offset = -1;

    PlainText(byte[] bytes) {
        String text = new String(bytes, java.nio.charset.StandardCharsets.ISO_8859_1);
        Matcher matcher = TOKENS.matcher(text);
        while (matcher.find()) {
            tokens.add(matcher.group());
            offsets.add(matcher.start());
        }
        tokens.add("");
        offsets.add(text.length());
    }

    PlainMarket.State read() {
        int at = 0;
        do {
            String[] form = formOf(tokens.get(at), at == 0);
            if (form == null) {
                return fault(1, at);
            }
            boolean order = form[0].equals("bid") || form[0].equals("offer");
            if (form[0].equals("trader") && state.traders.size() == 8 || order && state.orders.size() == 20) {
                return fault(5, at);
            }
            String[] given = new String[form.length];
            for (int i = 1; i < form.length; i++) {
                given[i] = tokens.get(at + i);
                int wrong = errorOf(form, i, given);
                if (wrong != 0) {
                    return fault(wrong, at + i);
                }
            }
            at += form.length;
            if (!tokens.get(at).equals(";")) {
                return fault(1, at);
            }
            at++;
            carryOut(form[0], given);
        } while (!tokens.get(at).isEmpty());
        return state;
    }

    private PlainMarket.State fault(int newCode, int at) {
        code = newCode;
        offset = offsets.get(at);
        return null;
    }

    private static String[] formOf(String word, boolean first) {
        for (String form : FORMS) {
            String[] parts = form.split(" ");
            if (parts[0].equals(word) && first == word.equals("market")) {
                return parts;
            }
        }
        return null;
    }

    private int traderNamed(String name) {
        for (int trader = 0; trader < state.traders.size(); trader++) {
            if (state.traders.get(trader).name().equals(name)) {
                return trader;
            }
        }
        return -1;
    }

    private static java.math.BigInteger big(String digits) {
        return new java.math.BigInteger(digits);
    }

    private PlainMarket.Order orderOf(String digits) {
        return state.orders.stream().filter(o -> big(digits).equals(big("" + o.number()))).findFirst().orElse(null);
    }

    private int errorOf(String[] form, int i, String[] given) {
        String token = given[i];
        String what = form[i];
        boolean number = what.equals("o") || what.contains("-");
        if (!token.matches(number ? "[0-9]+" : "[a-z]+")) {
            return 1;
        }
        switch (what) {
            case "n": return token.length() > 4 ? 2 : traderNamed(token) >= 0 ? 3 : 0;
            case "u": return token.equals(given[1]) ? 3 : traderNamed(token) < 0 ? 4 : 0;
            case "t": return traderNamed(token) < 0 ? 4 : 0;
            case "r": return token.equals("time") || token.equals("share") ? 0 : 4;
            case "o": return orderOf(token) == null ? 4 : 0;
            default: break;
        }
        String[] range = what.split("-");
        if (big(token).compareTo(big(range[0])) < 0 || big(token).compareTo(big(range[1])) > 0) {
            return 2;
        }
        int value = Integer.parseInt(token.replaceFirst("^0+(?=.)", ""));
        switch (form[0] + i) {
            case "bid3": return state.free(traderNamed(given[1]), 0) < value * big(given[2]).intValue() ? 6 : 0;
            case "offer3": return state.free(traderNamed(given[1]), 1) < value ? 6 : 0;
            case "amend2": return value >= orderOf(given[1]).quantity() ? 6 : 0;
            case "give3": return value > state.free(traderNamed(given[1]), 1) ? 6 : 0;
            default: return 0;
        }
    }

    private static int number(String digits) {
        return big(digits).intValue();
    }

    private void replace(PlainMarket.Order order, PlainMarket.Order changed) {
        state.orders.set(state.orders.indexOf(order), changed);
    }

    private void carryOut(String word, String[] g) {
        switch (word) {
            case "market":
                state.period = number(g[1]);
                state.last = number(g[2]);
                state.band = number(g[3]);
                state.rule = g[4].equals("share") ? 1 : 0;
                break;
            case "trader": state.traders.add(new PlainMarket.Trader(g[1], number(g[2]), number(g[3]))); break;
            case "bid": state.place(traderNamed(g[1]), 0, number(g[2]), number(g[3]), number(g[4])); break;
            case "offer": state.place(traderNamed(g[1]), 1, number(g[2]), number(g[3]), number(g[4])); break;
            case "withdraw": state.orders.remove(orderOf(g[1])); break;
            case "amend": replace(orderOf(g[1]), orderOf(g[1]).left(number(g[2]))); break;
            case "extend": {
                PlainMarket.Order o = orderOf(g[1]);
                replace(o, new PlainMarket.Order(o.number(), o.trader(), o.side(), o.limit(), o.quantity(), state.minute + number(g[2])));
                break;
            }
            case "clear": {
                int trader = traderNamed(g[1]);
                state.orders.removeIf(o -> o.trader() == trader);
                break;
            }
            case "give":
                state.move(traderNamed(g[1]), 0, -number(g[3]));
                state.move(traderNamed(g[2]), 0, number(g[3]));
                break;
            case "period": state.period = number(g[1]); break;
            case "rule": state.rule = g[1].equals("share") ? 1 : 0; break;
            case "band": state.band = number(g[1]); break;
            case "pass": state.pass(number(g[1])); break;
            default: state.cry(); break;
        }
    }
}
