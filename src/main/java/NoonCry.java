import java.util.NoSuchElementException;

/** A market with one price for everybody at the noon cry; ../shared/DOC.md says what each call does. */
public final class NoonCry {
    public static final int PARSE_ERROR = -7;

    private static final int BID = 0;
    private static final int OFFER = 1;
    private static final int TIME = 0;
    private static final int SHARE = 1;
    private static final int NONE = -1;

    private static final int MOST_TRADERS = 8;
    private static final int MOST_ORDERS = 20;
    private static final int MOST_COINS = 999999;
    private static final int MOST_GOODS = 9999;
    private static final int MOST_PRICE = 999;
    private static final int MOST_QUANTITY = 99;
    private static final int MOST_MINUTES = 999;
    private static final int MOST_PASSING = 300;
    private static final int MOST_PERIOD = 60;
    private static final int MOST_PAID = 99999;
    private static final int SLOTS = 2;

    // the text of a new object, in three parts
    private static final String FIRST_TRADERS =
        "market 5 50 20 time;trader amy 2000 10;trader ben 3000 0;trader cal 500 40;trader dot 900 25;";
    private static final String FIRST_ORDERS =
        "bid amy 60 8 9;bid ben 55 12 9;offer cal 48 10 9;offer dot 52 15 9;offer cal 58 6 9;bid dot 50 5 9;";
    private static final String FIRST_MINUTES =
        "pass 5;bid ben 53 4 20;offer dot 53 5 20;";

    private final Setup setup;
    private final Market market;
    private final Market draft;
    private final Crossing crossing;
    private final History history;
    private final Market[] saved;
    private final Output output;

    public NoonCry() {
        Setup reader = new Setup();
        Market first = new Market();
        Crossing rows = new Crossing();
        reader.putAll(FIRST_TRADERS);
        reader.putAll(FIRST_ORDERS);
        reader.putAll(FIRST_MINUTES);
        reader.read(first, rows);
        reader.empty();
        setup = reader;
        market = first;
        draft = new Market();
        crossing = rows;
        history = new History();
        saved = new Market[SLOTS];
        output = new Output();
    }

    public int append(int a, int b, int c, int d, int e) throws IllegalStateException {
        if (setup.length > Setup.ROOM - 20) {
            throw new IllegalStateException("the input buffer is full");
        }
        setup.putFour(a);
        setup.putFour(b);
        setup.putFour(c);
        setup.putFour(d);
        setup.putFour(e);
        return setup.length;
    }

    public int truncate(int length) throws IllegalArgumentException {
        if (length < 0 || length > setup.length) {
            throw new IllegalArgumentException("no such length");
        }
        setup.length = length;
        return length;
    }

    public int load() {
        boolean good = setup.read(draft, crossing);
        setup.empty();
        if (!good) {
            return PARSE_ERROR;
        }
        history.keep(market);
        market.copyFrom(draft);
        return market.book.count;
    }

    public int errorCode() {
        return setup.errorCode;
    }

    public int errorOffset() {
        return setup.errorOffset;
    }

    public int minute() {
        return market.minute;
    }

    public int lastPrice() {
        return market.lastPrice;
    }

    public int band() {
        return market.band;
    }

    public int rule() {
        return market.rule;
    }

    public int minutesToCry() {
        return market.period - market.minutesSinceCry();
    }

    public int traderCount() {
        return market.traders.count;
    }

    public int coinsOf(int trader) throws IndexOutOfBoundsException {
        needTrader(trader);
        return market.traders.coins[trader];
    }

    public int goodsOf(int trader) throws IndexOutOfBoundsException {
        needTrader(trader);
        return market.traders.goods[trader];
    }

    public int freeCoins(int trader) throws IndexOutOfBoundsException {
        needTrader(trader);
        return market.coinsNotHeld(trader);
    }

    public int freeGoods(int trader) throws IndexOutOfBoundsException {
        needTrader(trader);
        return market.goodsNotHeld(trader);
    }

    public int orderCount() {
        return market.book.count;
    }

    public int orderAt(int index) throws IndexOutOfBoundsException {
        if (index < 0 || index >= market.book.count) {
            throw new IndexOutOfBoundsException("no such order");
        }
        return market.book.number[index];
    }

    public int traderOf(int order) throws NoSuchElementException {
        int row = needOrder(order);
        return market.book.trader[row];
    }

    public int sideOf(int order) throws NoSuchElementException {
        int row = needOrder(order);
        return market.book.side[row];
    }

    public int limitOf(int order) throws NoSuchElementException {
        int row = needOrder(order);
        return market.book.limit[row];
    }

    public int quantityOf(int order) throws NoSuchElementException {
        int row = needOrder(order);
        return market.book.quantity[row];
    }

    public int minutesLeft(int order) throws NoSuchElementException {
        int row = needOrder(order);
        return market.book.lastMinute[row] - market.minute + 1;
    }

    public int rankOf(int order) throws NoSuchElementException {
        int row = needOrder(order);
        crossing.take(market.book);
        return crossing.placeInLine(row);
    }

    public int demandAt(int price) throws IllegalArgumentException {
        needRange(price, 1, MOST_PRICE);
        return market.book.wantedAt(price);
    }

    public int supplyAt(int price) throws IllegalArgumentException {
        needRange(price, 1, MOST_PRICE);
        return market.book.offeredAt(price);
    }

    public int volumeAt(int price) throws IllegalArgumentException {
        needRange(price, 1, MOST_PRICE);
        return Math.min(market.book.wantedAt(price), market.book.offeredAt(price));
    }

    public int excessAt(int price) throws IllegalArgumentException {
        needRange(price, 1, MOST_PRICE);
        return market.book.wantedAt(price) - market.book.offeredAt(price);
    }

    public int bestBid() {
        return bestLimit(BID);
    }

    public int bestOffer() {
        return bestLimit(OFFER);
    }

    public int cryPrice() {
        crossNow();
        return crossing.price;
    }

    public int cryVolume() {
        crossNow();
        return crossing.volume;
    }

    public boolean wouldStop() {
        crossNow();
        return market.stopsAt(crossing.price);
    }

    public int fillOf(int order) throws NoSuchElementException {
        int row = needOrder(order);
        crossNow();
        return crossing.fill[row];
    }

    public int partialFills() {
        crossNow();
        return crossing.countPartial();
    }

    public int lastLimit(int side) throws IllegalArgumentException {
        needRange(side, BID, OFFER);
        crossNow();
        return crossing.lastFilledLimit(side);
    }

    public int priceWithout(int order) throws NoSuchElementException {
        int row = needOrder(order);
        crossWithout(row);
        return crossing.price;
    }

    public int volumeWithout(int order) throws NoSuchElementException {
        int row = needOrder(order);
        crossWithout(row);
        return crossing.volume;
    }

    public int priceWith(int side, int limit, int quantity) throws IllegalArgumentException {
        needOrderForm(side, limit, quantity);
        crossWith(side, limit, quantity);
        return crossing.price;
    }

    public int fillWith(int side, int limit, int quantity) throws IllegalArgumentException {
        needOrderForm(side, limit, quantity);
        crossWith(side, limit, quantity);
        crossing.fillSide(side, market.rule);
        return crossing.fillOfLastRow();
    }

    public int priceToBuy(int quantity) throws IllegalArgumentException {
        needRange(quantity, 1, 999);
        return market.book.lowestSupplying(quantity);
    }

    public int priceToSell(int quantity) throws IllegalArgumentException {
        needRange(quantity, 1, 999);
        return market.book.highestDemanding(quantity);
    }

    public int orderRefusal(int trader, int side, int limit, int quantity)
            throws IndexOutOfBoundsException, IllegalArgumentException {
        needTrader(trader);
        needOrderForm(side, limit, quantity);
        return market.refusal(trader, side, limit, quantity);
    }

    public int worthOf(int order) throws NoSuchElementException {
        int row = needOrder(order);
        crossNow();
        return crossing.fill[row] * crossing.price;
    }

    public int coinsAfterCry(int trader) throws IndexOutOfBoundsException {
        needTrader(trader);
        crossNow();
        return market.traders.coins[trader] + crossing.coinsComingTo(trader, market.book);
    }

    public int tradedPieces() {
        return market.tally.traded;
    }

    public int goodCries() {
        return market.tally.good;
    }

    public int stoppedCries() {
        return market.tally.stopped;
    }

    public int lateOrders() {
        return market.tally.late;
    }

    public int coinDifference() {
        return market.tally.coinsIn - market.traders.allCoins();
    }

    public int goodDifference() {
        crossNow();
        int fills = Math.abs(crossing.filled(BID) - crossing.filled(OFFER));
        return market.tally.goodsIn - market.traders.allGoods() + fills;
    }

    public float tradedShare() {
        if (market.tally.placed == 0) {
            return 0.0f;
        }
        return (float) market.tally.traded / (float) market.tally.placed;
    }

    public double meanPrice() {
        if (market.tally.traded == 0) {
            return 0.0;
        }
        return (double) market.tally.paid / (double) market.tally.traded;
    }

    public int place(int trader, int side, int limit, int quantity, int minutes)
            throws IndexOutOfBoundsException, IllegalArgumentException, IllegalStateException {
        needTrader(trader);
        needOrderForm(side, limit, quantity);
        needRange(minutes, 0, MOST_MINUTES);
        if (market.refusal(trader, side, limit, quantity) != 0) {
            throw new IllegalStateException("the order is refused");
        }
        history.keep(market);
        return market.addOrder(trader, side, limit, quantity, minutes);
    }

    public int withdraw(int order) throws NoSuchElementException {
        int row = needOrder(order);
        history.keep(market);
        int quantity = market.book.quantity[row];
        market.book.remove(row);
        return quantity;
    }

    public int setRule(int rule) throws IllegalArgumentException {
        needRange(rule, TIME, SHARE);
        history.keep(market);
        int former = market.rule;
        market.rule = rule;
        return former;
    }

    public int setBand(int band) throws IllegalArgumentException {
        needRange(band, 0, MOST_PRICE);
        history.keep(market);
        int former = market.band;
        market.band = band;
        return former;
    }

    public int pay(int trader, int coins)
            throws IndexOutOfBoundsException, IllegalArgumentException, IllegalStateException {
        needTrader(trader);
        needRange(coins, 1, MOST_PAID);
        if (market.traders.coins[trader] > MOST_COINS - coins) {
            throw new IllegalStateException("too many coins");
        }
        history.keep(market);
        market.traders.coins[trader] += coins;
        market.tally.coinsIn += coins;
        return market.traders.coins[trader];
    }

    public int cry() {
        history.keep(market);
        return market.holdCry(crossing);
    }

    public int pass(int minutes) throws IllegalArgumentException {
        needRange(minutes, 1, MOST_PASSING);
        history.keep(market);
        return market.letMinutesPass(minutes, crossing);
    }

    public int save(int slot) throws IndexOutOfBoundsException {
        needSlot(slot);
        if (saved[slot] == null) {
            saved[slot] = new Market();
        }
        saved[slot].copyFrom(market);
        return market.minute;
    }

    public int restore(int slot) throws IndexOutOfBoundsException, IllegalStateException {
        needSlot(slot);
        if (saved[slot] == null) {
            throw new IllegalStateException("nothing is saved there");
        }
        history.keep(market);
        market.copyFrom(saved[slot]);
        return market.minute;
    }

    public int undo() throws IllegalStateException {
        if (history.count == 0) {
            throw new IllegalStateException("there is no change to undo");
        }
        history.bringBack(market);
        return history.count;
    }

    public int printSide(int side) throws IllegalArgumentException {
        needRange(side, BID, OFFER);
        crossing.take(market.book);
        int lined = crossing.lineUp(side);
        output.length = 0;
        if (lined == 0) {
            output.put('-');
        }
        for (int at = 0; at < lined; at++) {
            if (at > 0) {
                output.put(' ');
            }
            printOrder(crossing.turn[at]);
        }
        return output.length;
    }

    public int outputByte(int index) throws NoSuchElementException {
        if (index < 0 || index >= output.length) {
            throw new NoSuchElementException("no such byte");
        }
        return output.bytes[index];
    }

    private void printOrder(int row) {
        Book book = market.book;
        output.putName(market.traders.name[book.trader[row]]);
        output.put('@');
        output.putNumber(book.limit[row]);
        output.put('x');
        output.putNumber(book.quantity[row]);
    }

    private void needTrader(int trader) {
        if (trader < 0 || trader >= market.traders.count) {
            throw new IndexOutOfBoundsException("no such trader");
        }
    }

    private void needSlot(int slot) {
        if (slot < 0 || slot >= SLOTS) {
            throw new IndexOutOfBoundsException("no such slot");
        }
    }

    private int needOrder(int order) {
        int row = market.book.rowWith(order);
        if (row < 0) {
            throw new NoSuchElementException("no such order");
        }
        return row;
    }

    private void needRange(int value, int least, int most) {
        if (value < least || value > most) {
            throw new IllegalArgumentException("out of range");
        }
    }

    private void needOrderForm(int side, int limit, int quantity) {
        needRange(side, BID, OFFER);
        needRange(limit, 1, MOST_PRICE);
        needRange(quantity, 1, MOST_QUANTITY);
    }

    private int bestLimit(int side) {
        crossing.take(market.book);
        int lined = crossing.lineUp(side);
        return lined == 0 ? NONE : crossing.limit[crossing.turn[0]];
    }

    private void crossNow() {
        crossing.take(market.book);
        crossing.findPrice(market.lastPrice);
        crossing.fillSide(BID, market.rule);
        crossing.fillSide(OFFER, market.rule);
    }

    private void crossWithout(int row) {
        crossing.take(market.book);
        crossing.leaveOut(row);
        crossing.findPrice(market.lastPrice);
    }

    private void crossWith(int side, int limit, int quantity) {
        crossing.take(market.book);
        crossing.add(side, limit, quantity);
        crossing.findPrice(market.lastPrice);
    }

    /** What the traders have; a name is kept as its letters in one int, so that rows hold numbers alone. */
    private static final class Traders {
        int count;
        final int[] name = new int[MOST_TRADERS];
        final int[] coins = new int[MOST_TRADERS];
        final int[] goods = new int[MOST_TRADERS];

        void copyFrom(Traders other) {
            count = other.count;
            for (int trader = 0; trader < MOST_TRADERS; trader++) {
                name[trader] = other.name[trader];
                coins[trader] = other.coins[trader];
                goods[trader] = other.goods[trader];
            }
        }

        void add(int newName, int newCoins, int newGoods) {
            if (count >= MOST_TRADERS) {
                return;
            }
            name[count] = newName;
            coins[count] = newCoins;
            goods[count] = newGoods;
            count++;
        }

        int named(int wanted) {
            for (int trader = 0; trader < count; trader++) {
                if (name[trader] == wanted) {
                    return trader;
                }
            }
            return NONE;
        }

        int allCoins() {
            int sum = 0;
            for (int trader = 0; trader < count; trader++) {
                sum += coins[trader];
            }
            return sum;
        }

        int allGoods() {
            int sum = 0;
            for (int trader = 0; trader < count; trader++) {
                sum += goods[trader];
            }
            return sum;
        }
    }

    /** The orders, in rows that stand by ascending numbers, so that a row that is ahead came earlier. */
    private static final class Book {
        int count;
        int nextNumber;
        final int[] number = new int[MOST_ORDERS];
        final int[] trader = new int[MOST_ORDERS];
        final int[] side = new int[MOST_ORDERS];
        final int[] limit = new int[MOST_ORDERS];
        final int[] quantity = new int[MOST_ORDERS];
        final int[] lastMinute = new int[MOST_ORDERS];

        void copyFrom(Book other) {
            count = other.count;
            nextNumber = other.nextNumber;
            for (int row = 0; row < MOST_ORDERS; row++) {
                number[row] = other.number[row];
                trader[row] = other.trader[row];
                side[row] = other.side[row];
                limit[row] = other.limit[row];
                quantity[row] = other.quantity[row];
                lastMinute[row] = other.lastMinute[row];
            }
        }

        boolean isFull() {
            return count >= MOST_ORDERS;
        }

        int add(int newTrader, int newSide, int newLimit, int newQuantity, int newLastMinute) {
            if (isFull()) {
                return NONE;
            }
            int given = nextNumber;
            number[count] = given;
            trader[count] = newTrader;
            side[count] = newSide;
            limit[count] = newLimit;
            quantity[count] = newQuantity;
            lastMinute[count] = newLastMinute;
            count++;
            nextNumber++;
            return given;
        }

        int rowWith(int wanted) {
            for (int row = 0; row < count; row++) {
                if (number[row] == wanted) {
                    return row;
                }
            }
            return NONE;
        }

        void remove(int gone) {
            if (gone < 0 || gone >= count) {
                return;
            }
            for (int row = gone; row + 1 < count; row++) {
                number[row] = number[row + 1];
                trader[row] = trader[row + 1];
                side[row] = side[row + 1];
                limit[row] = limit[row + 1];
                quantity[row] = quantity[row + 1];
                lastMinute[row] = lastMinute[row + 1];
            }
            count--;
        }

        void removeEmpty() {
            for (int row = count - 1; row >= 0; row--) {
                if (quantity[row] == 0) {
                    remove(row);
                }
            }
        }

        void removeAllOf(int owner) {
            for (int row = count - 1; row >= 0; row--) {
                if (trader[row] == owner) {
                    remove(row);
                }
            }
        }

        int removeLate(int minute) {
            int before = count;
            for (int row = count - 1; row >= 0; row--) {
                if (lastMinute[row] < minute) {
                    remove(row);
                }
            }
            return before - count;
        }

        int heldCoins(int owner) {
            int held = 0;
            for (int row = 0; row < count; row++) {
                if (trader[row] == owner && side[row] == BID) {
                    held += limit[row] * quantity[row];
                }
            }
            return held;
        }

        int heldGoods(int owner) {
            int held = 0;
            for (int row = 0; row < count; row++) {
                if (trader[row] == owner && side[row] == OFFER) {
                    held += quantity[row];
                }
            }
            return held;
        }

        int wantedAt(int price) {
            int sum = 0;
            for (int row = 0; row < count; row++) {
                if (side[row] == BID && limit[row] >= price) {
                    sum += quantity[row];
                }
            }
            return sum;
        }

        int offeredAt(int price) {
            int sum = 0;
            for (int row = 0; row < count; row++) {
                if (side[row] == OFFER && limit[row] <= price) {
                    sum += quantity[row];
                }
            }
            return sum;
        }

        // The supply grows only at limits of offers, so no other price can be the smallest one.
        int lowestSupplying(int wanted) {
            int lowest = NONE;
            for (int row = 0; row < count; row++) {
                boolean better = lowest == NONE || limit[row] < lowest;
                if (side[row] == OFFER && better && offeredAt(limit[row]) >= wanted) {
                    lowest = limit[row];
                }
            }
            return lowest;
        }

        int highestDemanding(int wanted) {
            int highest = NONE;
            for (int row = 0; row < count; row++) {
                if (side[row] == BID && limit[row] > highest && wantedAt(limit[row]) >= wanted) {
                    highest = limit[row];
                }
            }
            return highest;
        }
    }

    /** What has been counted since the text began. */
    private static final class Tally {
        int traded;
        int placed;
        int good;
        int stopped;
        int late;
        int coinsIn;
        int goodsIn;
        long paid;

        void copyFrom(Tally other) {
            traded = other.traded;
            placed = other.placed;
            good = other.good;
            stopped = other.stopped;
            late = other.late;
            coinsIn = other.coinsIn;
            goodsIn = other.goodsIn;
            paid = other.paid;
        }

        void clear() {
            traded = 0;
            placed = 0;
            good = 0;
            stopped = 0;
            late = 0;
            coinsIn = 0;
            goodsIn = 0;
            paid = 0L;
        }
    }

    /** All that undo brings back, and nothing else. */
    private static final class Market {
        int minute;
        int lastPrice = 1;
        int band;
        int rule;
        int period = 1;
        final Traders traders = new Traders();
        final Book book = new Book();
        final Tally tally = new Tally();

        void copyFrom(Market other) {
            minute = other.minute;
            lastPrice = other.lastPrice;
            band = other.band;
            rule = other.rule;
            period = other.period;
            traders.copyFrom(other.traders);
            book.copyFrom(other.book);
            tally.copyFrom(other.tally);
        }

        void clear() {
            minute = 0;
            lastPrice = 1;
            band = 0;
            rule = TIME;
            period = 1;
            traders.count = 0;
            book.count = 0;
            book.nextNumber = 0;
            tally.clear();
        }

        int minutesSinceCry() {
            return period < 1 ? 0 : minute % period;
        }

        int coinsNotHeld(int trader) {
            return traders.coins[trader] - book.heldCoins(trader);
        }

        int goodsNotHeld(int trader) {
            return traders.goods[trader] - book.heldGoods(trader);
        }

        int refusal(int trader, int side, int limit, int quantity) {
            if (book.isFull()) {
                return 1;
            }
            if (side == BID && coinsNotHeld(trader) < limit * quantity) {
                return 2;
            }
            if (side == OFFER && goodsNotHeld(trader) < quantity) {
                return 3;
            }
            return 0;
        }

        void addTrader(int name, int coins, int goods) {
            traders.add(name, coins, goods);
            tally.coinsIn += coins;
            tally.goodsIn += goods;
        }

        int addOrder(int trader, int side, int limit, int quantity, int minutes) {
            tally.placed += quantity;
            return book.add(trader, side, limit, quantity, minute + minutes);
        }

        int letMinutesPass(int minutes, Crossing crossing) {
            int before = tally.traded;
            for (int passed = 0; passed < minutes; passed++) {
                minute++;
                tally.late += book.removeLate(minute);
                if (minutesSinceCry() == 0) {
                    holdCry(crossing);
                }
            }
            return tally.traded - before;
        }

        boolean stopsAt(int price) {
            return price != NONE && band != 0 && Math.abs(price - lastPrice) > band;
        }

        int holdCry(Crossing crossing) {
            crossing.take(book);
            crossing.findPrice(lastPrice);
            if (crossing.price == NONE) {
                return 0;
            }
            if (stopsAt(crossing.price)) {
                tally.stopped++;
                lastPrice += crossing.price > lastPrice ? band : -band;
                return 0;
            }
            crossing.fillSide(BID, rule);
            crossing.fillSide(OFFER, rule);
            trade(crossing);
            book.removeEmpty();
            return crossing.volume;
        }

        private void trade(Crossing crossing) {
            for (int row = 0; row < book.count; row++) {
                int trader = book.trader[row];
                int pieces = crossing.fill[row];
                int bought = book.side[row] == BID ? pieces : -pieces;
                traders.goods[trader] += bought;
                traders.coins[trader] -= bought * crossing.price;
                book.quantity[row] -= pieces;
            }
            lastPrice = crossing.price;
            tally.good++;
            tally.traded += crossing.volume;
            tally.paid += (long) crossing.volume * (long) crossing.price;
        }
    }

    /** Finds price and fills on rows of its own, so that a forecast can add or leave out an order. */
    private static final class Crossing {
        // one more than the book holds, for the order of a forecast
        static final int ROOM = MOST_ORDERS + 1;

        int count;
        int price = NONE;
        int volume;
        int surplus;
        int distance;
        final int[] side = new int[ROOM];
        final int[] limit = new int[ROOM];
        final int[] quantity = new int[ROOM];
        final int[] fill = new int[ROOM];
        final int[] turn = new int[ROOM];

        void take(Book book) {
            count = book.count;
            for (int row = 0; row < MOST_ORDERS; row++) {
                side[row] = book.side[row];
                limit[row] = book.limit[row];
                quantity[row] = book.quantity[row];
            }
        }

        void leaveOut(int row) {
            if (row >= 0 && row < count) {
                quantity[row] = 0;
            }
        }

        void add(int newSide, int newLimit, int newQuantity) {
            if (count >= ROOM) {
                return;
            }
            side[count] = newSide;
            limit[count] = newLimit;
            quantity[count] = newQuantity;
            count++;
        }

        // Demand and supply change only next to limits, so the price nearest to the last one is
        // the last price itself, a limit, or the price behind a limit; and only from the lowest
        // offer to the highest bid is there a volume at all.
        void findPrice(int last) {
            price = NONE;
            volume = 0;
            surplus = 0;
            distance = 0;
            int highest = 0;
            int lowest = MOST_PRICE + 1;
            for (int row = 0; row < count; row++) {
                fill[row] = 0;
                if (side[row] == BID && quantity[row] > 0) {
                    highest = Math.max(highest, limit[row]);
                }
                if (side[row] == OFFER && quantity[row] > 0) {
                    lowest = Math.min(lowest, limit[row]);
                }
            }
            if (last >= lowest && last <= highest) {
                weigh(last, last);
            }
            for (int row = 0; row < count; row++) {
                int near = limit[row];
                int behind = side[row] == BID ? near + 1 : near - 1;
                if (near >= lowest && near <= highest) {
                    weigh(near, last);
                }
                if (behind >= lowest && behind <= highest) {
                    weigh(behind, last);
                }
            }
        }

        private void weigh(int candidate, int last) {
            int demand = 0;
            int supply = 0;
            for (int row = 0; row < count; row++) {
                if (side[row] == BID && limit[row] >= candidate) {
                    demand += quantity[row];
                }
                if (side[row] == OFFER && limit[row] <= candidate) {
                    supply += quantity[row];
                }
            }
            int newVolume = demand < supply ? demand : supply;
            int newSurplus = demand < supply ? supply - demand : demand - supply;
            int newDistance = candidate < last ? last - candidate : candidate - last;
            boolean better = newVolume != volume ? newVolume > volume
                : newSurplus != surplus ? newSurplus < surplus
                : newDistance != distance ? newDistance < distance
                : candidate < price;
            if (better) {
                price = candidate;
                volume = newVolume;
                surplus = newSurplus;
                distance = newDistance;
            }
        }

        // By time each order is a group of its own, by share all orders of one limit are a group.
        void fillSide(int wanted, int rule) {
            int lined = lineUp(wanted);
            int left = volume;
            int end = 0;
            for (int at = 0; at < lined && left > 0; at++) {
                if (at == end) {
                    end = rule == SHARE ? endOfLimit(at, lined) : at + 1;
                    left = fillGroup(at, end, left);
                }
            }
        }

        private int endOfLimit(int from, int lined) {
            int end = from + 1;
            while (end < lined && limit[turn[end]] == limit[turn[from]]) {
                end++;
            }
            return end;
        }

        // A group that what is left covers takes its whole quantities by the same division.
        private int fillGroup(int from, int end, int left) {
            int total = 0;
            for (int at = from; at < end; at++) {
                total += quantity[turn[at]];
            }
            if (total < 1) {
                return left;
            }
            int shared = left < total ? left : total;
            int rest = left;
            for (int at = from; at < end; at++) {
                int part = quantity[turn[at]] * shared / total;
                fill[turn[at]] = part;
                rest -= part;
            }
            for (int at = from; at < end && rest > 0; at++) {
                if (fill[turn[at]] < quantity[turn[at]]) {
                    fill[turn[at]]++;
                    rest--;
                }
            }
            return rest;
        }

        int lineUp(int wanted) {
            int lined = 0;
            for (int row = 0; row < count; row++) {
                if (side[row] == wanted) {
                    int at = lined;
                    while (at > 0 && (wanted == BID ? limit[row] > limit[turn[at - 1]]
                            : limit[row] < limit[turn[at - 1]])) {
                        turn[at] = turn[at - 1];
                        at--;
                    }
                    turn[at] = row;
                    lined++;
                }
            }
            return lined;
        }

        int placeInLine(int row) {
            int lined = lineUp(side[row]);
            int ahead = 0;
            while (ahead < lined && turn[ahead] != row) {
                ahead++;
            }
            return ahead;
        }

        int fillOfLastRow() {
            return count < 1 ? 0 : fill[count - 1];
        }

        int lastFilledLimit(int wanted) {
            int lined = lineUp(wanted);
            int found = NONE;
            for (int at = 0; at < lined; at++) {
                if (fill[turn[at]] > 0) {
                    found = limit[turn[at]];
                }
            }
            return found;
        }

        int countPartial() {
            int partial = 0;
            for (int row = 0; row < count; row++) {
                if (fill[row] > 0 && fill[row] < quantity[row]) {
                    partial++;
                }
            }
            return partial;
        }

        int filled(int wanted) {
            int sum = 0;
            for (int row = 0; row < count; row++) {
                if (side[row] == wanted) {
                    sum += fill[row];
                }
            }
            return sum;
        }

        int coinsComingTo(int trader, Book book) {
            int coming = 0;
            for (int row = 0; row < book.count; row++) {
                if (book.trader[row] == trader) {
                    int worth = fill[row] * price;
                    coming += side[row] == BID ? -worth : worth;
                }
            }
            return coming;
        }
    }

    /** The latest changes, as copies of what stood before them. */
    private static final class History {
        static final int MOST = 6;

        int count;
        private int next;
        private final Market[] kept = new Market[MOST];

        void keep(Market market) {
            if (kept[next] == null) {
                kept[next] = new Market();
            }
            kept[next].copyFrom(market);
            next = next + 1 < MOST ? next + 1 : 0;
            if (count < MOST) {
                count++;
            }
        }

        void bringBack(Market market) {
            int latest = next > 0 ? next - 1 : MOST - 1;
            if (count < 1 || kept[latest] == null) {
                return;
            }
            market.copyFrom(kept[latest]);
            next = latest;
            count--;
        }
    }

    /** The output text. */
    private static final class Output {
        // 20 orders of 11 bytes at most, and 19 spaces
        static final int ROOM = 239;

        int length;
        final byte[] bytes = new byte[ROOM];

        void put(int sign) {
            if (length < ROOM) {
                bytes[length] = (byte) sign;
                length++;
            }
        }

        void putName(int name) {
            for (int shift = 24; shift >= 0; shift -= 8) {
                int letter = name >> shift & 255;
                if (letter != 0) {
                    put(letter);
                }
            }
        }

        // Limits and quantities have three digits at most.
        void putNumber(int value) {
            if (value >= 100) {
                put('0' + value / 100 % 10);
            }
            if (value >= 10) {
                put('0' + value / 10 % 10);
            }
            put('0' + value % 10);
        }
    }

    /** The input buffer and its reading; a statement is read and tested whole before it is carried out. */
    private static final class Setup {
        static final int ROOM = 600;

        private static final int END = 0;
        private static final int WORD = 1;
        private static final int NUMBER = 2;
        private static final int SEMICOLON = 3;
        private static final int STRANGE = 4;

        private static final int MARKET_WORD = 0;
        private static final int TRADER_WORD = 1;
        private static final int BID_WORD = 2;
        private static final int OFFER_WORD = 3;
        private static final int WITHDRAW_WORD = 4;
        private static final int AMEND_WORD = 5;
        private static final int EXTEND_WORD = 6;
        private static final int CLEAR_WORD = 7;
        private static final int GIVE_WORD = 8;
        private static final int PERIOD_WORD = 9;
        private static final int RULE_WORD = 10;
        private static final int BAND_WORD = 11;
        private static final int PASS_WORD = 12;
        private static final int CRY_WORD = 13;

        // above every range and every number of an order that a text can have
        private static final int TOO_GREAT = 9999999;
        private static final int MOST_LETTERS = 4;

        int length;
        int errorCode;
        int errorOffset = NONE;
        private final byte[] text = new byte[ROOM];
        private int kind;
        private int start;
        private int end;
        private int value;
        private int statement;
        private final int[] given = new int[4];

        void empty() {
            length = 0;
        }

        void put(int sign) {
            if (length < ROOM) {
                text[length] = (byte) sign;
                length++;
            }
        }

        void putFour(int four) {
            for (int shift = 24; shift >= 0; shift -= 8) {
                put(four >> shift);
            }
        }

        void putAll(String signs) {
            for (int at = 0; at < signs.length(); at++) {
                put(signs.charAt(at));
            }
        }

        boolean read(Market draft, Crossing crossing) {
            errorCode = 0;
            errorOffset = NONE;
            end = 0;
            draft.clear();
            for (int done = 0; done <= ROOM; done++) {
                nextToken();
                if (done > 0 && kind == END) {
                    return true;
                }
                if (!readStatement(draft, done == 0)) {
                    return false;
                }
                carryOut(draft, crossing);
            }
            return false;
        }

        private boolean fail(int code) {
            errorCode = code;
            errorOffset = start;
            return false;
        }

        private void nextToken() {
            int at = end;
            while (at < length && (text[at] == ' ' || text[at] == '\n')) {
                at++;
            }
            start = at;
            kind = at < length ? kindOf(text[at]) : END;
            value = 0;
            if (kind == WORD) {
                while (at < length && kindOf(text[at]) == WORD) {
                    at++;
                }
            } else if (kind == NUMBER) {
                while (at < length && kindOf(text[at]) == NUMBER) {
                    value = Math.min(TOO_GREAT, value * 10 + text[at] - '0');
                    at++;
                }
            } else if (kind != END) {
                at++;
            }
            end = at;
        }

        private int kindOf(int sign) {
            if (sign >= 'a' && sign <= 'z') {
                return WORD;
            }
            if (sign >= '0' && sign <= '9') {
                return NUMBER;
            }
            return sign == ';' ? SEMICOLON : STRANGE;
        }

        private boolean isWord(String word) {
            if (kind != WORD || word.length() != end - start) {
                return false;
            }
            for (int at = 0; at < word.length() && start + at < length; at++) {
                if (word.charAt(at) != text[start + at]) {
                    return false;
                }
            }
            return true;
        }

        private int statementWord() {
            if (isWord("market")) {
                return MARKET_WORD;
            }
            if (isWord("trader")) {
                return TRADER_WORD;
            }
            if (isWord("bid")) {
                return BID_WORD;
            }
            if (isWord("offer")) {
                return OFFER_WORD;
            }
            if (isWord("withdraw")) {
                return WITHDRAW_WORD;
            }
            if (isWord("amend")) {
                return AMEND_WORD;
            }
            if (isWord("extend")) {
                return EXTEND_WORD;
            }
            if (isWord("clear")) {
                return CLEAR_WORD;
            }
            if (isWord("give")) {
                return GIVE_WORD;
            }
            return settingWord();
        }

        private int settingWord() {
            if (isWord("period")) {
                return PERIOD_WORD;
            }
            if (isWord("rule")) {
                return RULE_WORD;
            }
            if (isWord("band")) {
                return BAND_WORD;
            }
            if (isWord("pass")) {
                return PASS_WORD;
            }
            return isWord("cry") ? CRY_WORD : NONE;
        }

        private boolean readStatement(Market draft, boolean first) {
            statement = statementWord();
            if (statement == NONE || first != (statement == MARKET_WORD)) {
                return fail(1);
            }
            if (statement == TRADER_WORD && draft.traders.count >= MOST_TRADERS) {
                return fail(5);
            }
            if ((statement == BID_WORD || statement == OFFER_WORD) && draft.book.isFull()) {
                return fail(5);
            }
            if (!readGiven(draft)) {
                return false;
            }
            nextToken();
            return kind == SEMICOLON || fail(1);
        }

        private boolean readGiven(Market draft) {
            switch (statement) {
                case MARKET_WORD:
                    return readNumber(0, 1, MOST_PERIOD) && readNumber(1, 1, MOST_PRICE)
                        && readNumber(2, 0, MOST_PRICE) && readRule(3);
                case TRADER_WORD:
                    return readNewName(draft.traders) && readNumber(1, 0, MOST_COINS)
                        && readNumber(2, 0, MOST_GOODS);
                case BID_WORD:
                case OFFER_WORD:
                    return readTrader(0, draft.traders) && readNumber(1, 1, MOST_PRICE)
                        && readNumber(2, 1, MOST_QUANTITY)
                        && (draft.refusal(given[0], newSide(), given[1], given[2]) == 0 || fail(6))
                        && readNumber(3, 0, MOST_MINUTES);
                case WITHDRAW_WORD:
                    return readRow(draft.book);
                case AMEND_WORD:
                    return readRow(draft.book) && readNumber(1, 1, MOST_QUANTITY)
                        && (given[1] < draft.book.quantity[given[0]] || fail(6));
                case EXTEND_WORD:
                    return readRow(draft.book) && readNumber(1, 0, MOST_MINUTES);
                case CLEAR_WORD:
                    return readTrader(0, draft.traders);
                case GIVE_WORD:
                    return readTrader(0, draft.traders) && readTrader(1, draft.traders)
                        && (given[1] != given[0] || fail(3)) && readNumber(2, 1, MOST_GOODS)
                        && (given[2] <= draft.goodsNotHeld(given[0]) || fail(6));
                case PERIOD_WORD:
                    return readNumber(0, 1, MOST_PERIOD);
                case RULE_WORD:
                    return readRule(0);
                case BAND_WORD:
                    return readNumber(0, 0, MOST_PRICE);
                case PASS_WORD:
                    return readNumber(0, 0, MOST_PASSING);
                default:
                    return true;
            }
        }

        private int newSide() {
            return statement == BID_WORD ? BID : OFFER;
        }

        private boolean readNumber(int which, int least, int most) {
            nextToken();
            if (kind != NUMBER) {
                return fail(1);
            }
            given[which] = value;
            return value >= least && value <= most || fail(2);
        }

        private boolean readRule(int which) {
            nextToken();
            if (kind != WORD) {
                return fail(1);
            }
            given[which] = isWord("share") ? SHARE : TIME;
            return given[which] == SHARE || isWord("time") || fail(4);
        }

        // A word that is too long for a name gets 0, which is no trader's name.
        private int packedName() {
            if (end - start > MOST_LETTERS) {
                return 0;
            }
            int name = 0;
            for (int at = start; at < end; at++) {
                name = name * 256 + text[at];
            }
            return name;
        }

        private boolean readNewName(Traders traders) {
            nextToken();
            if (kind != WORD) {
                return fail(1);
            }
            given[0] = packedName();
            if (given[0] == 0) {
                return fail(2);
            }
            return traders.named(given[0]) == NONE || fail(3);
        }

        private boolean readTrader(int which, Traders traders) {
            nextToken();
            if (kind != WORD) {
                return fail(1);
            }
            given[which] = traders.named(packedName());
            return given[which] != NONE || fail(4);
        }

        private boolean readRow(Book book) {
            nextToken();
            if (kind != NUMBER) {
                return fail(1);
            }
            given[0] = book.rowWith(value);
            return given[0] != NONE || fail(4);
        }

        private void carryOut(Market draft, Crossing crossing) {
            switch (statement) {
                case MARKET_WORD:
                    draft.period = given[0];
                    draft.lastPrice = given[1];
                    draft.band = given[2];
                    draft.rule = given[3];
                    break;
                case TRADER_WORD:
                    draft.addTrader(given[0], given[1], given[2]);
                    break;
                case BID_WORD:
                case OFFER_WORD:
                    draft.addOrder(given[0], newSide(), given[1], given[2], given[3]);
                    break;
                case WITHDRAW_WORD:
                    draft.book.remove(given[0]);
                    break;
                case AMEND_WORD:
                    draft.book.quantity[given[0]] = given[1];
                    break;
                case EXTEND_WORD:
                    draft.book.lastMinute[given[0]] = draft.minute + given[1];
                    break;
                case CLEAR_WORD:
                    draft.book.removeAllOf(given[0]);
                    break;
                case GIVE_WORD:
                    draft.traders.goods[given[0]] -= given[2];
                    draft.traders.goods[given[1]] += given[2];
                    break;
                case PERIOD_WORD:
                    draft.period = given[0];
                    break;
                case RULE_WORD:
                    draft.rule = given[0];
                    break;
                case BAND_WORD:
                    draft.band = given[0];
                    break;
                case PASS_WORD:
                    draft.letMinutesPass(given[0], crossing);
                    break;
                case CRY_WORD:
                    draft.holdCry(crossing);
                    break;
                default:
                    break;
            }
        }
    }
}
