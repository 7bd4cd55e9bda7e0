import java.util.ArrayList;
import java.util.Arrays;
import java.util.Comparator;
import java.util.HashMap;
import java.util.LinkedHashMap;
import java.util.List;
import java.util.Map;
import java.util.NoSuchElementException;
import java.util.stream.Collectors;

/** The document once more, by trying every price and copying everything; RandomTest compares NoonCry with it. */
final class PlainMarket {
    record Trader(String name, int coins, int goods) { }

    record Order(int number, int trader, int side, int limit, int quantity, int last) {
        Order left(int rest) {
            return new Order(number, trader, side, limit, rest, last);
        }
    }

    /** What undo brings back. */
    static final class State implements Cloneable {
        List<Trader> traders = new ArrayList<>();
        List<Order> orders = new ArrayList<>();
        Map<String, Long> count = new HashMap<>();
        int minute;
        int last;
        int band;
        int rule;
        int period;
        int next;

        State copy() {
            try {
                State state = (State) clone();
                state.traders = new ArrayList<>(traders);
                state.orders = new ArrayList<>(orders);
                state.count = new HashMap<>(count);
                return state;
            } catch (CloneNotSupportedException e) {
                throw new AssertionError(e);
            }
        }

        long count(String what) {
            return count.getOrDefault(what, 0L);
        }

        void add(String what, long more) {
            count.merge(what, more, Long::sum);
        }

        int sum(int side, int price) {
            int sum = 0;
            for (Order o : orders) {
                if (o.side == side && (side == 0 ? o.limit >= price : o.limit <= price)) {
                    sum += o.quantity;
                }
            }
            return sum;
        }

        int volume(int price) {
            return Math.min(sum(0, price), sum(1, price));
        }

        int held(int trader, int side) {
            return orders.stream().filter(o -> o.trader == trader && o.side == side)
                .mapToInt(o -> side == 0 ? o.limit * o.quantity : o.quantity).sum();
        }

        int free(int trader, int side) {
            return (side == 0 ? traders.get(trader).coins : traders.get(trader).goods) - held(trader, side);
        }

        int refusal(int trader, int side, int limit, int quantity) {
            if (orders.size() == 20) {
                return 1;
            }
            if (free(trader, side) < (side == 0 ? limit * quantity : quantity)) {
                return side == 0 ? 2 : 3;
            }
            return 0;
        }

        int price() {
            int best = -1;
            long bestKey = 0;
            if (line(0).isEmpty() || line(1).isEmpty()) {
                return best;
            }
            for (int price = 1; price <= 999; price++) {
                long key = key(price);
                if (volume(price) > 0 && (best < 0 || key > bestKey)) {
                    best = price;
                    bestKey = key;
                }
            }
            return best;
        }

        private long key(int price) {
            long surplus = Math.abs(sum(0, price) - sum(1, price));
            return (volume(price) * 100_000L - surplus) * 100_000L - Math.abs(price - last);
        }

        List<Order> line(int side) {
            Comparator<Order> byLimit = Comparator.comparingInt(o -> side == 0 ? -o.limit : o.limit);
            return orders.stream().filter(o -> o.side == side).sorted(byLimit.thenComparingInt(Order::number))
                .collect(Collectors.toList());
        }

        /** The fills by the numbers of the orders. */
        Map<Integer, Integer> fills() {
            Map<Integer, Integer> fills = new LinkedHashMap<>();
            orders.forEach(o -> fills.put(o.number, 0));
            int price = price();
            if (price < 0) {
                return fills;
            }
            for (int side = 0; side < 2; side++) {
                int left = volume(price);
                List<Order> line = line(side);
                Map<Integer, List<Order>> limits = new LinkedHashMap<>();
                line.forEach(o -> limits.computeIfAbsent(o.limit, k -> new ArrayList<>()).add(o));
                for (List<Order> group : limits.values()) {
                    int total = group.stream().mapToInt(Order::quantity).sum();
                    if (rule == 0 || total <= left) {
                        for (Order o : group) {
                            int fill = Math.min(left, o.quantity);
                            fills.put(o.number, fill);
                            left -= fill;
                        }
                    } else {
                        int r = left;
                        for (Order o : group) {
                            int fill = o.quantity * r / total;
                            fills.put(o.number, fill);
                            left -= fill;
                        }
                        for (Order o : group) {
                            if (left > 0 && fills.get(o.number) < o.quantity) {
                                fills.merge(o.number, 1, Integer::sum);
                                left--;
                            }
                        }
                    }
                }
            }
            return fills;
        }

        void move(int trader, int coins, int goods) {
            Trader t = traders.get(trader);
            traders.set(trader, new Trader(t.name, t.coins + coins, t.goods + goods));
        }

        boolean stops() {
            int price = price();
            return price > 0 && band != 0 && Math.abs(price - last) > band;
        }

        int cry() {
            int price = price();
            if (price < 0) {
                return 0;
            }
            if (stops()) {
                add("stopped", 1);
                last += Integer.signum(price - last) * band;
                return 0;
            }
            int volume = volume(price);
            Map<Integer, Integer> fills = fills();
            List<Order> rest = new ArrayList<>();
            for (Order o : orders) {
                int fill = fills.get(o.number);
                int sign = o.side == 0 ? 1 : -1;
                move(o.trader, -sign * fill * price, sign * fill);
                if (o.quantity > fill) {
                    rest.add(o.left(o.quantity - fill));
                }
            }
            orders = rest;
            last = price;
            add("good", 1);
            add("traded", volume);
            add("paid", (long) volume * price);
            return volume;
        }

        int pass(int minutes) {
            int traded = 0;
            for (int i = 0; i < minutes; i++) {
                minute++;
                int before = orders.size();
                orders.removeIf(o -> o.last < minute);
                add("late", before - orders.size());
                if (minute % period == 0) {
                    traded += cry();
                }
            }
            return traded;
        }

        int place(int trader, int side, int limit, int quantity, int minutes) {
            orders.add(new Order(next, trader, side, limit, quantity, minute + minutes));
            add("placed", quantity);
            return next++;
        }

        Order order(long number) {
            return orders.stream().filter(o -> o.number == number).findFirst().orElseThrow(NoSuchElementException::new);
        }
    }

    State state;
    byte[] buffer = new byte[0];
    int errorCode;
    int errorOffset = -1;
    String output = "";
    final State[] slots = new State[2];
    final ArrayList<State> changes = new ArrayList<>();

    PlainMarket(String firstText) {
        buffer = firstText.getBytes(java.nio.charset.StandardCharsets.ISO_8859_1);
        load();
        changes.clear();
    }

    int load() {
        PlainText text = new PlainText(buffer);
        buffer = new byte[0];
        State read = text.read();
        errorCode = text.code;
        errorOffset = text.offset;
        if (read == null) {
            return -7;
        }
        change();
        state = read;
        return state.orders.size();
    }

    void change() {
        if (state != null) {
            changes.add(state.copy());
        }
        if (changes.size() > 6) {
            changes.remove(0);
        }
    }

    private static void need(boolean good, String kind) {
        if (!good) {
            switch (kind) {
                case "index": throw new IndexOutOfBoundsException();
                case "state": throw new IllegalStateException();
                case "element": throw new NoSuchElementException();
                default: throw new IllegalArgumentException();
            }
        }
    }

    private void trader(int trader) {
        need(trader >= 0 && trader < state.traders.size(), "index");
    }

    private static void range(int value, int least, int most) {
        need(least <= value && value <= most, "argument");
    }

    private static void form(int side, int limit, int quantity) {
        range(side, 0, 1);
        range(limit, 1, 999);
        range(quantity, 1, 99);
    }

    private State without(int order) {
        State other = state.copy();
        other.orders.remove(state.order(order));
        return other;
    }

    private State with(int side, int limit, int quantity) {
        form(side, limit, quantity);
        State other = state.copy();
        other.orders.add(new Order(state.next, -1, side, limit, quantity, 0));
        return other;
    }

    /** The answer of the call with this name. */
    Object call(String name, int... a) {
        switch (name) {
            case "append": {
                need(buffer.length + 20 <= 600, "state");
                int at = buffer.length;
                buffer = Arrays.copyOf(buffer, at + 20);
                java.nio.ByteBuffer.wrap(buffer, at, 20).putInt(a[0]).putInt(a[1]).putInt(a[2]).putInt(a[3]).putInt(a[4]);
                return buffer.length;
            }
            case "truncate":
                range(a[0], 0, buffer.length);
                buffer = Arrays.copyOf(buffer, a[0]);
                return a[0];
            case "load": return load();
            case "errorCode": return errorCode;
            case "errorOffset": return errorOffset;
            case "minute": return state.minute;
            case "lastPrice": return state.last;
            case "band": return state.band;
            case "rule": return state.rule;
            case "minutesToCry":
                for (int i = 1; ; i++) {
                    if ((state.minute + i) % state.period == 0) {
                        return i;
                    }
                }
            case "traderCount": return state.traders.size();
            case "coinsOf": trader(a[0]); return state.traders.get(a[0]).coins;
            case "goodsOf": trader(a[0]); return state.traders.get(a[0]).goods;
            case "freeCoins": trader(a[0]); return state.free(a[0], 0);
            case "freeGoods": trader(a[0]); return state.free(a[0], 1);
            case "orderCount": return state.orders.size();
            case "orderAt": need(a[0] >= 0 && a[0] < state.orders.size(), "index"); return state.orders.get(a[0]).number;
            case "traderOf": return state.order(a[0]).trader;
            case "sideOf": return state.order(a[0]).side;
            case "limitOf": return state.order(a[0]).limit;
            case "quantityOf": return state.order(a[0]).quantity;
            case "minutesLeft": return state.order(a[0]).last + 1 - state.minute;
            case "rankOf": return state.line(state.order(a[0]).side).indexOf(state.order(a[0]));
            default: return question(name, a);
        }
    }

    private Object question(String name, int[] a) {
        switch (name) {
            case "demandAt": range(a[0], 1, 999); return state.sum(0, a[0]);
            case "supplyAt": range(a[0], 1, 999); return state.sum(1, a[0]);
            case "volumeAt": range(a[0], 1, 999); return state.volume(a[0]);
            case "excessAt": range(a[0], 1, 999); return state.sum(0, a[0]) - state.sum(1, a[0]);
            case "bestBid": return state.line(0).stream().mapToInt(Order::limit).max().orElse(-1);
            case "bestOffer": return state.line(1).stream().mapToInt(Order::limit).min().orElse(-1);
            case "cryPrice": return state.price();
            case "cryVolume": return state.price() < 0 ? 0 : state.volume(state.price());
            case "wouldStop": return state.stops();
            case "fillOf": state.order(a[0]); return state.fills().get(a[0]);
            case "partialFills": {
                Map<Integer, Integer> fills = state.fills();
                return (int) state.orders.stream().filter(o -> fills.get(o.number) > 0 && fills.get(o.number) < o.quantity).count();
            }
            case "lastLimit": {
                range(a[0], 0, 1);
                Map<Integer, Integer> fills = state.fills();
                return state.line(a[0]).stream().filter(o -> fills.get(o.number) > 0).mapToInt(Order::limit)
                    .reduce((x, y) -> y).orElse(-1);
            }
            case "priceWithout": return without(a[0]).price();
            case "volumeWithout": {
                State other = without(a[0]);
                return other.price() < 0 ? 0 : other.volume(other.price());
            }
            case "priceWith": return with(a[0], a[1], a[2]).price();
            case "fillWith": return with(a[0], a[1], a[2]).fills().get(state.next);
            case "priceToBuy": {
                range(a[0], 1, 999);
                int price = 1;
                while (price <= 999 && state.sum(1, price) < a[0]) {
                    price++;
                }
                return price > 999 ? -1 : price;
            }
            case "priceToSell": {
                range(a[0], 1, 999);
                int price = 999;
                while (price >= 1 && state.sum(0, price) < a[0]) {
                    price--;
                }
                return price < 1 ? -1 : price;
            }
            case "orderRefusal": trader(a[0]); form(a[1], a[2], a[3]); return state.refusal(a[0], a[1], a[2], a[3]);
            case "worthOf": state.order(a[0]); return state.fills().get(a[0]) * state.price();
            case "coinsAfterCry": {
                trader(a[0]);
                State other = state.copy();
                other.band = 0;
                other.cry();
                return other.traders.get(a[0]).coins;
            }
            default: return tally(name, a);
        }
    }

    private Object tally(String name, int[] a) {
        switch (name) {
            case "tradedPieces": return (int) state.count("traded");
            case "goodCries": return (int) state.count("good");
            case "stoppedCries": return (int) state.count("stopped");
            case "lateOrders": return (int) state.count("late");
            case "coinDifference": return 0;
            case "goodDifference": return 0;
            case "tradedShare": return state.count("placed") == 0 ? 0.0f : (float) state.count("traded") / (float) state.count("placed");
            case "meanPrice": return state.count("traded") == 0 ? 0.0 : (double) state.count("paid") / (double) state.count("traded");
            default: return changed(name, a);
        }
    }

    private Object changed(String name, int[] a) {
        switch (name) {
            case "place":
                trader(a[0]);
                form(a[1], a[2], a[3]);
                range(a[4], 0, 999);
                need(state.refusal(a[0], a[1], a[2], a[3]) == 0, "state");
                change();
                return state.place(a[0], a[1], a[2], a[3], a[4]);
            case "withdraw": {
                Order order = state.order(a[0]);
                change();
                state.orders.remove(order);
                return order.quantity;
            }
            case "setRule": {
                range(a[0], 0, 1);
                change();
                int former = state.rule;
                state.rule = a[0];
                return former;
            }
            case "setBand": {
                range(a[0], 0, 999);
                change();
                int former = state.band;
                state.band = a[0];
                return former;
            }
            case "pay":
                trader(a[0]);
                range(a[1], 1, 99999);
                need(state.traders.get(a[0]).coins + a[1] <= 999999, "state");
                change();
                state.move(a[0], a[1], 0);
                return state.traders.get(a[0]).coins;
            case "cry": change(); return state.cry();
            case "pass": range(a[0], 1, 300); change(); return state.pass(a[0]);
            case "save": need(a[0] == 0 || a[0] == 1, "index"); slots[a[0]] = state.copy(); return state.minute;
            case "restore":
                need(a[0] == 0 || a[0] == 1, "index");
                need(slots[a[0]] != null, "state");
                change();
                state = slots[a[0]].copy();
                return state.minute;
            case "undo":
                need(!changes.isEmpty(), "state");
                state = changes.remove(changes.size() - 1);
                return changes.size();
            case "printSide": {
                range(a[0], 0, 1);
                output = state.line(a[0]).stream().map(o -> state.traders.get(o.trader).name + "@" + o.limit + "x" + o.quantity)
                    .collect(Collectors.joining(" "));
                output = output.isEmpty() ? "-" : output;
                return output.length();
            }
            case "outputByte": need(a[0] >= 0 && a[0] < output.length(), "element"); return (int) output.charAt(a[0]);
            default: throw new AssertionError(name);
        }
    }
}
