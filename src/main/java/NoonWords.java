import java.util.Arrays;
import java.util.NoSuchElementException;

/** A house of brokers who pay a stranger on a word from far. */
public final class NoonWords {
    public static final int NONE = -1;

    private static final int LAST_DAY = 999;
    private static final int SEASON = 90;
    private static final int MAX_TOWNS = 8;
    private static final int COINS = 4;
    private static final int MAX_RATES = 150;
    private static final int MAX_BROKERS = 12;
    private static final int KINS = 6;
    private static final int KINDS = 4;
    private static final int DRAWER_FULL = 10000000;
    private static final int MAX_ENTRIES = 400;
    private static final int MAX_WORDS = 100;
    private static final int MAX_EXPECTED = 80;
    private static final int MAX_TEXTS = 6;
    private static final int MAX_LINES = 24;
    private static final int MAX_NEST = 5;
    private static final int MAX_NUMBER = 999;
    private static final int MAX_DIGITS = 6;
    private static final int TAPE = 400;
    // Far above what five brackets, with two sums open in each, and a comparison's left side hold at once.
    private static final int STACK = 32;
    private static final int FEED = 20;
    private static final int TRAYS = 4;
    private static final int MAX_TRAY = 60;
    private static final int RING = 5;
    private static final int GROUPED = 9;
    private static final int DEBTS = 6;
    private static final int WEEKS = 4;

    // What may be ASKED, by the numbers that said() takes; VOID stands behind them.
    private static final int FEE = 0;
    private static final int DIES = 1;
    private static final int BOUND = 2;
    private static final int RANK = 3;
    private static final int BEARS = 6;
    private static final int LOSS = 7;
    private static final int BAN = 8;
    private static final int VOID = 9;
    private static final int[] LEAST = {0, 1, 0, -1000, -1000, -1000, 0, 0, 0};
    private static final int[] MOST = {100000, 500, 1000000000, 1000, 1000, 1000, 100, 1, 1};
    private static final int[] UNSAID = {0, 60, 1000000, 0, 0, 0, 0, 0, 0};

    // A token's kind is its sign's own number, or, for a word, WORD and its place in SPELLINGS.
    private static final String SIGNS = ";:<>=+-*/%()[]";
    private static final String SPELLINGS =
            "fee dies bound rank bears loss ban void n coin way seasons kin day time from to near far teller payer unless or and not ";
    private static final int WORD = 128;
    private static final int RANK_WORD = 131;
    private static final int LOSS_WORD = 133;
    private static final int BAN_WORD = 134;
    private static final int VOID_WORD = 135;
    private static final int FIRST_NAME = 136;
    private static final int KIN_NAME = 140;
    private static final int LAST_NAME = 144;
    private static final int NEAR = 145;
    private static final int FAR = 146;
    private static final int TELLER = 147;
    private static final int PAYER = 148;
    private static final int UNLESS = 149;
    private static final int OR = 150;
    private static final int AND = 151;
    private static final int NOT = 152;
    private static final int UNKNOWN = 153;
    private static final int NUMBER = 154;
    private static final int END = 155;
    private static final int BROKEN = 156;

    private static final int NO_TOKEN = 1;
    private static final int MISPLACED = 2;
    private static final int TOO_MANY_LINES = 3;
    private static final int BAD_NUMBER = 4;
    private static final int TOO_DEEP = 5;

    private final Land land;
    private final Brokers brokers;
    private final Ledger ledger;
    private final Tape tape;
    private final Reader reader;
    private final Custom custom;
    private final Words words;
    private final Clearing clearing;
    private final Coming coming;
    private final Estates estates;
    private final Trays trays;

    public NoonWords() {
        land = new Land();
        brokers = new Brokers(land);
        ledger = new Ledger(land, brokers);
        tape = new Tape();
        reader = new Reader(tape);
        custom = new Custom(land, brokers, reader);
        words = new Words(land, brokers, ledger, custom);
        clearing = new Clearing(brokers, ledger);
        coming = new Coming(land, brokers, ledger, words);
        estates = new Estates(land, brokers, ledger, custom, words);
        trays = new Trays();
    }

    // ---- what calls ask of their arguments

    private static void needFound(boolean there) {
        if (!there) {
            throw new NoSuchElementException();
        }
    }

    private static void needArgument(boolean right) {
        if (!right) {
            throw new IllegalArgumentException();
        }
    }

    private static void needState(boolean right) {
        if (!right) {
            throw new IllegalStateException();
        }
    }

    private static void needPlace(boolean there) {
        if (!there) {
            throw new IndexOutOfBoundsException();
        }
    }

    private static boolean within(int n, int least, int most) {
        return n >= least && n <= most;
    }

    private static boolean isCoin(int coin) {
        return within(coin, 0, COINS - 1);
    }

    private static boolean isDay(int day) {
        return within(day, 0, LAST_DAY);
    }

    private static boolean holds(int set, int member) {
        return (set >> member & 1) != 0;
    }

    private boolean isTown(int town) {
        return within(town, 0, land.towns - 1);
    }

    private boolean isBroker(int broker) {
        return within(broker, 0, brokers.many - 1);
    }

    private boolean isWord(int word) {
        return within(word, 0, words.many - 1);
    }

    private static boolean isTray(int tray) {
        return within(tray, 0, TRAYS - 1);
    }

    // ---- days, towns, coins

    public int go(int days) throws IllegalArgumentException, IllegalStateException {
        needArgument(within(days, 1, 100));
        needState(land.now + days <= LAST_DAY);
        land.goOn(days);
        return land.now;
    }

    public int town() {
        return land.addTown();
    }

    public int road(int a, int b, int days) throws NoSuchElementException, IllegalArgumentException {
        needFound(isTown(a) && isTown(b));
        needArgument(a != b && within(days, 1, 9));
        return land.setRoad(a, b, days);
    }

    public int lag(int from, int to) throws NoSuchElementException {
        needFound(isTown(from) && isTown(to));
        return land.lagOf(from, to);
    }

    public int rate(int town, int coin, int of) throws NoSuchElementException, IllegalArgumentException {
        needFound(isTown(town));
        needArgument(within(coin, 1, COINS - 1) && within(of, 1, 1000));
        return land.addRate(town, coin, of);
    }

    public int rateAt(int town, int coin, int day) throws NoSuchElementException, IllegalArgumentException {
        needFound(isTown(town));
        needArgument(isCoin(coin) && isDay(day));
        return land.rateHeard(town, coin, day);
    }

    // ---- brokers

    public int broker(int town, int kin) throws NoSuchElementException, IllegalArgumentException {
        needFound(isTown(town));
        needArgument(within(kin, 0, KINS - 1));
        return brokers.addBroker(town, kin);
    }

    public int put(int broker, int coin, int many)
            throws NoSuchElementException, IllegalArgumentException, IllegalStateException {
        needFound(isBroker(broker));
        needArgument(isCoin(coin));
        long then = (long) brokers.has(broker, coin) + many;
        needState(!brokers.hasFallen(broker) && then >= 0 && then <= DRAWER_FULL);
        brokers.gets(broker, coin, many);
        return brokers.has(broker, coin);
    }

    public int drawer(int broker, int coin) throws NoSuchElementException, IllegalArgumentException {
        needFound(isBroker(broker));
        needArgument(isCoin(coin));
        return brokers.has(broker, coin);
    }

    // ---- custom

    public int feed(int a, int b, int c, int d, int e) {
        if (tape.length + FEED > TAPE) {
            return NONE;
        }
        tape.addFour(a);
        tape.addFour(b);
        tape.addFour(c);
        tape.addFour(d);
        tape.addFour(e);
        return tape.length;
    }

    public int text(int n, int towns, int day) throws IllegalArgumentException {
        needArgument(within(n, 0, tape.length) && within(towns, 1, 255) && isDay(day));
        int told = custom.hasRoom() ? reader.readText(n) : NONE;
        tape.length = 0;
        if (told >= 0) {
            custom.addText(told, towns, day);
        }
        return told;
    }

    public int fault(int what) {
        if (what == 0) {
            return reader.fault;
        }
        return what == 1 ? reader.faultPlace : NONE;
    }

    public int lines(int town, int day, int what) throws NoSuchElementException, IllegalArgumentException {
        needFound(isTown(town));
        needArgument(isDay(day) && within(what, 0, 1));
        return custom.countLines(town, day, what == 1);
    }

    public int said(int a, int b, long n, int coin, int what)
            throws NoSuchElementException, IllegalArgumentException {
        needFound(isBroker(a) && isBroker(b));
        needArgument(isCoin(coin) && within(what, FEE, BAN));
        return custom.ask(a, b, n, coin, what);
    }

    // ---- words

    public int tell(int teller, int payer, int coin, int many, int secret)
            throws NoSuchElementException, IllegalArgumentException, IllegalStateException {
        needFound(isBroker(teller) && isBroker(payer));
        needArgument(teller != payer && isCoin(coin) && within(many, 1, 100000) && within(secret, 0, 32767));
        needState(words.hasRoom() && words.canTell(teller, payer, coin, many));
        return words.addTold(teller, payer, coin, many, secret);
    }

    public int pay(int word, int secret) throws NoSuchElementException, IllegalStateException {
        needFound(isWord(word));
        needState(words.canPay(word) && ledger.hasRoom(1));
        return words.hearSecret(word, secret);
    }

    public int back(int word) throws NoSuchElementException, IllegalStateException {
        needFound(isWord(word));
        needState(words.canTakeBack(word));
        return words.takeBack(word);
    }

    public int twin(int word, int broker) throws NoSuchElementException, IllegalStateException {
        needFound(isWord(word) && isBroker(broker));
        needState(words.hasRoom() && words.canTwin(word, broker));
        return words.addTwin(word, broker);
    }

    public int word(int word, int what) throws NoSuchElementException, IllegalArgumentException {
        needFound(isWord(word));
        needArgument(within(what, 0, 9));
        return words.detail(word, what);
    }

    // ---- debts

    public int owes(int a, int b, int coin) throws NoSuchElementException, IllegalArgumentException {
        needFound(isBroker(a) && isBroker(b));
        needArgument(isCoin(coin));
        return (int) ledger.net(a, b, coin);
    }

    public int heard(int asks, int a, int b, int coin, int day)
            throws NoSuchElementException, IllegalArgumentException, IllegalStateException {
        needFound(isBroker(asks) && isBroker(a) && isBroker(b));
        needArgument(isCoin(coin) && isDay(day));
        needState(asks == a || asks == b);
        return (int) ledger.netHeard(a, b, coin, brokers.town[asks], day);
    }

    public long claim(int a, int b) throws NoSuchElementException {
        needFound(isBroker(a) && isBroker(b));
        return ledger.claimOn(a, b);
    }

    public int settle(int a, int b, int coin, int many)
            throws NoSuchElementException, IllegalArgumentException, IllegalStateException {
        needFound(isBroker(a) && isBroker(b));
        needArgument(a != b && isCoin(coin) && many >= 1);
        needState(!brokers.hasFallen(a) && !brokers.hasFallen(b) && ledger.hasRoom(1)
                && ledger.net(a, b, coin) >= many && brokers.has(a, coin) >= many);
        brokers.gets(a, coin, -many);
        brokers.gets(b, coin, many);
        ledger.record(brokers.town[b], a, b, coin, -many, 1);
        return (int) ledger.net(a, b, coin);
    }

    public int market(int town, int kind, int price) throws NoSuchElementException, IllegalArgumentException {
        needFound(isTown(town));
        needArgument(within(kind, 0, KINDS - 1) && within(price, 0, 10000));
        return ledger.setMarket(town, kind, price);
    }

    public int goods(int a, int b, int coin, int kind, int many, int price)
            throws NoSuchElementException, IllegalArgumentException, IllegalStateException {
        needFound(isBroker(a) && isBroker(b));
        needArgument(a != b && isCoin(coin) && within(kind, 0, KINDS - 1)
                && within(many, 1, 100) && within(price, 0, 1000));
        needState(!brokers.hasFallen(a) && !brokers.hasFallen(b) && ledger.hasRoom(1));
        ledger.sendGoods(a, b, coin, kind, many, price);
        return (int) ledger.net(a, b, coin);
    }

    public long hidden(int a, int b) throws NoSuchElementException {
        needFound(isBroker(a) && isBroker(b));
        return ledger.hiddenFor[a * MAX_BROKERS + b];
    }

    public int ring(int coin, int most, int what) throws IllegalArgumentException {
        needArgument(isCoin(coin) && within(most, 3, RING) && within(what, -2, RING - 1));
        clearing.findRing(coin, most);
        if (clearing.ringSize == 0) {
            return NONE;
        }
        if (what == -1) {
            return (int) clearing.ringCross;
        }
        if (what == -2) {
            return clearing.ringSize;
        }
        return what < clearing.ringSize ? clearing.best[what] : NONE;
    }

    public int cross(int coin, int most) throws IllegalArgumentException, IllegalStateException {
        needArgument(isCoin(coin) && within(most, 3, RING));
        clearing.findRing(coin, most);
        needState(ledger.hasRoom(clearing.ringSize));
        return clearing.crossOut(coin);
    }

    public int fewest(int coin, int set) throws IllegalArgumentException {
        needArgument(isCoin(coin) && isGroupable(set));
        clearing.findSettlings(coin, set);
        return clearing.settlings;
    }

    public int step(int coin, int set, int k, int what) throws IllegalArgumentException {
        needArgument(isCoin(coin) && isGroupable(set) && within(what, 0, 2));
        clearing.findSettlings(coin, set);
        if (!within(k, 0, clearing.settlings - 1)) {
            return NONE;
        }
        if (what == 2) {
            return (int) clearing.amounts[k];
        }
        return what == 0 ? clearing.payers[k] : clearing.takers[k];
    }

    private boolean isGroupable(int set) {
        return within(set, 1, (1 << brokers.many) - 1) && Integer.bitCount(set) <= GROUPED;
    }

    public int entry(int k, int what) throws NoSuchElementException, IllegalArgumentException {
        needFound(within(k, 0, ledger.many - 1));
        needArgument(within(what, 0, 6));
        return ledger.detail(k, what);
    }

    // ---- what comes

    public int expect(int broker, int coin, int day, int low, int high)
            throws NoSuchElementException, IllegalArgumentException {
        needFound(isBroker(broker));
        needArgument(isCoin(coin) && isDay(day) && day >= land.now
                && low <= high && low >= -1000000 && high <= 1000000);
        return coming.addExpected(broker, coin, day, low, high);
    }

    public int dry(int broker, int coin, boolean surely) throws NoSuchElementException, IllegalArgumentException {
        needFound(isBroker(broker));
        needArgument(isCoin(coin));
        return coming.dryDay(broker, coin, surely);
    }

    public int plan(int coin, long debts, int many, int weeks, int what) throws IllegalArgumentException {
        needArgument(isCoin(coin) && within(many, 1, DEBTS) && within(weeks, 1, WEEKS)
                && within(what, -1, many - 1));
        needArgument(coming.takeDebts(coin, debts, many));
        coming.findPlan(coin, many, weeks);
        if (coming.latest == NONE || what == -1) {
            return coming.latest;
        }
        return coming.best[what];
    }

    // ---- a fall

    public long falls(int broker) throws NoSuchElementException, IllegalStateException {
        needFound(isBroker(broker));
        needState(!brokers.hasFallen(broker));
        int more = estates.foresee(broker);
        needState(ledger.hasRoom(more));
        return estates.carryOut(broker);
    }

    public int fell(int broker) throws NoSuchElementException {
        needFound(isBroker(broker));
        return brokers.fellOn[broker];
    }

    public int ruin(int broker, int what) throws NoSuchElementException, IllegalArgumentException {
        needFound(isBroker(broker));
        needArgument(within(what, 0, 1));
        estates.bringDown(broker);
        return what == 0 ? estates.down : estates.rounds;
    }

    public long wealth(int broker) throws NoSuchElementException {
        needFound(isBroker(broker));
        return estates.wealthOf(broker);
    }

    public int run(int broker, int days, int what) throws NoSuchElementException, IllegalArgumentException {
        needFound(isBroker(broker));
        needArgument(within(days, 0, 100) && within(what, 0, 1));
        return what == 0 ? estates.comers(broker, days) : estates.firstUnpaid(broker, days);
    }

    // ---- trays, books

    public void tray(int tray, int sort, int many) throws NoSuchElementException, IllegalArgumentException {
        needFound(isTray(tray));
        needArgument(within(sort, 0, 3) && within(many, 0, MAX_TRAY));
        trays.renew(tray, sort, many);
    }

    public long write(int tray, int place, long v)
            throws NoSuchElementException, IllegalStateException, IndexOutOfBoundsException {
        needFound(isTray(tray));
        needState(!trays.isMissing(tray));
        needPlace(within(place, 0, trays.size[tray] - 1));
        trays.setNumber(tray, place, v);
        return trays.number(tray, place);
    }

    public long read(int tray, int place)
            throws NoSuchElementException, IllegalStateException, IndexOutOfBoundsException {
        needFound(isTray(tray));
        needState(!trays.isMissing(tray));
        needPlace(within(place, 0, trays.size[tray] - 1));
        return trays.number(tray, place);
    }

    public void pour(int from, int place, int to, int at, int many)
            throws NoSuchElementException, IllegalStateException, IndexOutOfBoundsException {
        needFound(isTray(from) && isTray(to));
        needState(!trays.isMissing(from) && !trays.isMissing(to) && trays.sort[from] == trays.sort[to]);
        needPlace(many >= 0 && within(place, 0, trays.size[from] - many) && within(at, 0, trays.size[to] - many));
        trays.copy(from, place, to, at, many);
    }

    public int book(int broker, int tray) throws NoSuchElementException {
        needFound(isBroker(broker) && isTray(tray));
        if (trays.isMissing(tray)) {
            return -2;
        }
        int whole = COINS + COINS * brokers.many;
        int there = Math.min(whole, trays.size[tray]);
        for (int place = 0; place < there; place++) {
            if (trays.number(tray, place) != bookNumber(broker, place)) {
                return place;
            }
        }
        return there == whole ? -1 : -3 - there;
    }

    private long bookNumber(int broker, int place) {
        if (place < COINS) {
            return brokers.has(broker, place);
        }
        return ledger.net(broker, place / COINS - 1, place % COINS);
    }

    public int count(int what) {
        switch (what) {
            case 0: return land.now;
            case 1: return land.towns;
            case 2: return brokers.many;
            case 3: return land.rates;
            case 4: return custom.texts;
            case 5: return words.many;
            case 6: return ledger.many;
            case 7: return coming.many;
            case 8: return Integer.bitCount(brokers.fallenSet());
            case 9: return tape.length;
            default: return NONE;
        }
    }

    /** NOW; TOWNS with ROADS and LAGS; RATES. */
    private static final class Land {
        int now;
        int towns;
        final int[] roads = new int[MAX_TOWNS * MAX_TOWNS];
        final int[] lags = new int[MAX_TOWNS * MAX_TOWNS];
        int rates;
        final int[] rateDay = new int[MAX_RATES];
        final int[] rateTown = new int[MAX_RATES];
        final int[] rateCoin = new int[MAX_RATES];
        final int[] rateOf = new int[MAX_RATES];
        final int[] ratesNow = new int[MAX_TOWNS * COINS];

        Land() {
            Arrays.fill(roads, NONE);
            Arrays.fill(lags, NONE);
            for (int town = 0; town < MAX_TOWNS; town++) {
                lags[town * MAX_TOWNS + town] = 0;
            }
        }

        void goOn(int days) {
            now += days;
            Arrays.fill(ratesNow, 0);
        }

        int addTown() {
            if (towns >= MAX_TOWNS) {
                return NONE;
            }
            towns++;
            return towns - 1;
        }

        int setRoad(int a, int b, int days) {
            int was = roads[a * MAX_TOWNS + b];
            roads[a * MAX_TOWNS + b] = days;
            roads[b * MAX_TOWNS + a] = days;
            measureLags();
            Arrays.fill(ratesNow, 0);
            return was;
        }

        // All anew, since a road may have become longer.
        private void measureLags() {
            System.arraycopy(roads, 0, lags, 0, lags.length);
            for (int town = 0; town < MAX_TOWNS; town++) {
                lags[town * MAX_TOWNS + town] = 0;
            }
            for (int by = 0; by < MAX_TOWNS; by++) {
                for (int from = 0; from < MAX_TOWNS; from++) {
                    shortenFrom(from, by);
                }
            }
        }

        private void shortenFrom(int from, int by) {
            int first = lagOf(from, by);
            for (int to = 0; to < MAX_TOWNS && first != NONE; to++) {
                int second = lagOf(by, to);
                int was = lagOf(from, to);
                if (second != NONE && (was == NONE || first + second < was)) {
                    lags[from * MAX_TOWNS + to] = first + second;
                }
            }
        }

        int lagOf(int from, int to) {
            return lags[from * MAX_TOWNS + to];
        }

        boolean isHeard(int from, int on, int to, int day) {
            int lag = lagOf(from, to);
            return lag != NONE && on + lag <= day;
        }

        int addRate(int town, int coin, int of) {
            if (rates >= MAX_RATES) {
                return NONE;
            }
            rateDay[rates] = now;
            rateTown[rates] = town;
            rateCoin[rates] = coin;
            rateOf[rates] = of;
            rates++;
            Arrays.fill(ratesNow, 0);
            return rates - 1;
        }

        // Rates stand by days, so the first that is heard, from the last on, is of the latest day.
        int rateHeard(int town, int coin, int day) {
            int best = NONE;
            int leastLag = NONE;
            for (int k = rates - 1; k >= 0 && coin != 0; k--) {
                if (best != NONE && rateDay[k] < rateDay[best]) {
                    break;
                }
                int lag = lags[rateTown[k] * MAX_TOWNS + town];
                boolean heard = rateCoin[k] == coin && lag != NONE && rateDay[k] + lag <= day;
                if (heard && (best == NONE || lag < leastLag)) {
                    best = k;
                    leastLag = lag;
                }
            }
            return best == NONE ? 100 : rateOf[best];
        }

        // A rate that was asked for is kept, 0 if it wasn't since go, road or rate.
        long worthNow(long n, int coin, int town) {
            int place = town * COINS + coin;
            if (ratesNow[place] == 0) {
                ratesNow[place] = rateHeard(town, coin, now);
            }
            return Math.floorDiv(n * ratesNow[place], 100L);
        }
    }

    /** BROKERS with their DRAWERS. */
    private static final class Brokers {
        final Land land;
        int many;
        final int[] town = new int[MAX_BROKERS];
        final int[] kin = new int[MAX_BROKERS];
        final int[] came = new int[MAX_BROKERS];
        final int[] fellOn = new int[MAX_BROKERS];
        final int[] coins = new int[MAX_BROKERS * COINS];

        Brokers(Land land) {
            this.land = land;
            Arrays.fill(fellOn, NONE);
        }

        int addBroker(int inTown, int ofKin) {
            if (many >= MAX_BROKERS) {
                return NONE;
            }
            town[many] = inTown;
            kin[many] = ofKin;
            came[many] = land.now;
            many++;
            return many - 1;
        }

        boolean hasFallen(int broker) {
            return fellOn[broker] != NONE;
        }

        int fallenSet() {
            int set = 0;
            for (int broker = 0; broker < many; broker++) {
                set |= hasFallen(broker) ? 1 << broker : 0;
            }
            return set;
        }

        int has(int broker, int coin) {
            return coins[broker * COINS + coin];
        }

        void gets(int broker, int coin, long n) {
            coins[broker * COINS + coin] = (int) Math.min(DRAWER_FULL, has(broker, coin) + n);
        }

        void empty(int broker) {
            for (int coin = 0; coin < COINS; coin++) {
                coins[broker * COINS + coin] = 0;
            }
        }

        int seasons(int broker) {
            return (land.now - came[broker]) / SEASON;
        }

        int lagTo(int from, int to) {
            return land.lagOf(town[from], town[to]);
        }

        long drawerWorth(int broker) {
            long sum = 0;
            for (int coin = 0; coin < COINS; coin++) {
                sum += land.worthNow(has(broker, coin), coin, town[broker]);
            }
            return sum;
        }
    }

    /** ENTRIES with the NETS that they make; MARKETS and what goods hide. */
    private static final class Ledger {
        final Land land;
        final Brokers brokers;
        int many;
        final int[] day = new int[MAX_ENTRIES];
        final int[] town = new int[MAX_ENTRIES];
        final int[] from = new int[MAX_ENTRIES];
        final int[] to = new int[MAX_ENTRIES];
        final int[] coin = new int[MAX_ENTRIES];
        final int[] amount = new int[MAX_ENTRIES];
        final int[] sort = new int[MAX_ENTRIES];
        final long[] nets = new long[MAX_BROKERS * MAX_BROKERS * COINS];
        final int[] markets = new int[MAX_TOWNS * KINDS];
        final long[] hiddenFor = new long[MAX_BROKERS * MAX_BROKERS];

        Ledger(Land land, Brokers brokers) {
            this.land = land;
            this.brokers = brokers;
        }

        boolean hasRoom(int more) {
            return many + more <= MAX_ENTRIES;
        }

        void record(int inTown, int a, int b, int ofCoin, int n, int ofSort) {
            if (many >= MAX_ENTRIES) {
                return;
            }
            day[many] = land.now;
            town[many] = inTown;
            from[many] = a;
            to[many] = b;
            coin[many] = ofCoin;
            amount[many] = n;
            sort[many] = ofSort;
            many++;
            nets[netPlace(a, b, ofCoin)] += n;
            nets[netPlace(b, a, ofCoin)] -= n;
        }

        int detail(int k, int what) {
            switch (what) {
                case 0: return day[k];
                case 1: return town[k];
                case 2: return from[k];
                case 3: return to[k];
                case 4: return coin[k];
                case 5: return amount[k];
                default: return sort[k];
            }
        }

        private static int netPlace(int a, int b, int coin) {
            return (a * MAX_BROKERS + b) * COINS + coin;
        }

        long net(int a, int b, int ofCoin) {
            return nets[netPlace(a, b, ofCoin)];
        }

        long netHeard(int a, int b, int ofCoin, int inTown, int onDay) {
            long sum = 0;
            for (int k = 0; k < many; k++) {
                if (coin[k] != ofCoin || !land.isHeard(town[k], day[k], inTown, onDay)) {
                    continue;
                }
                if (from[k] == a && to[k] == b) {
                    sum += amount[k];
                } else if (from[k] == b && to[k] == a) {
                    sum -= amount[k];
                }
            }
            return sum;
        }

        long netWorth(int a, int b, int inTown) {
            long sum = 0;
            for (int c = 0; c < COINS; c++) {
                sum += land.worthNow(net(a, b, c), c, inTown);
            }
            return sum;
        }

        long claimOn(int a, int b) {
            return Math.max(0L, netWorth(a, b, brokers.town[a]));
        }

        int setMarket(int inTown, int kind, int price) {
            int was = markets[inTown * KINDS + kind];
            markets[inTown * KINDS + kind] = price;
            return was;
        }

        void sendGoods(int a, int b, int ofCoin, int kind, int pieces, int price) {
            int counted = pieces * price;
            int there = brokers.town[b];
            record(there, a, b, ofCoin, -counted, 2);
            hiddenFor[a * MAX_BROKERS + b] += land.worthNow(counted, ofCoin, there)
                    - (long) pieces * markets[there * KINDS + kind];
        }
    }

    /** The tape, and the TOKENS of a text on it, of which the last is END or BROKEN. */
    private static final class Tape {
        final int[] bytes = new int[TAPE];
        int length;
        final int[] kinds = new int[TAPE + 1];
        final int[] places = new int[TAPE + 1];
        final int[] values = new int[TAPE + 1];
        int tokens;

        void addFour(int four) {
            for (int shift = 24; shift >= 0 && length < TAPE; shift -= 8) {
                bytes[length] = four >>> shift & 255;
                length++;
            }
        }

        void cut(int n) {
            tokens = 0;
            int at = 0;
            while (at < n) {
                int end = tokenEnd(at, n);
                if (bytes[at] != 10 && bytes[at] != 32) {
                    int kind = kindOf(at, end);
                    push(kind, at, kind == NUMBER ? valueOf(at, end) : 0);
                    if (kind == BROKEN) {
                        return;
                    }
                }
                at = Math.max(at + 1, end);
            }
            push(END, n, 0);
        }

        private int kindOf(int at, int end) {
            int c = bytes[at];
            if (isLetter(c)) {
                return wordKind(at, end);
            }
            if (isDigit(c)) {
                return end - at <= MAX_DIGITS ? NUMBER : BROKEN;
            }
            return SIGNS.indexOf((char) c) >= 0 ? c : BROKEN;
        }

        private void push(int kind, int place, int value) {
            if (tokens <= TAPE) {
                kinds[tokens] = kind;
                places[tokens] = place;
                values[tokens] = value;
                tokens++;
            }
        }

        private int tokenEnd(int at, int n) {
            int end = at + 1;
            if (isLetter(bytes[at])) {
                while (end < n && isLetter(bytes[end])) {
                    end++;
                }
            } else if (isDigit(bytes[at])) {
                while (end < n && isDigit(bytes[end])) {
                    end++;
                }
            }
            return end;
        }

        private int valueOf(int from, int end) {
            int value = 0;
            for (int at = from; at < end; at++) {
                value = value * 10 + bytes[at] - '0';
            }
            return value;
        }

        // One walk along SPELLINGS; same counts the letters that fit so far, NONE once one did not.
        private int wordKind(int from, int end) {
            int kind = WORD;
            int same = 0;
            for (int k = 0; k < SPELLINGS.length(); k++) {
                char c = SPELLINGS.charAt(k);
                if (c == ' ') {
                    if (same == end - from) {
                        return kind;
                    }
                    kind++;
                    same = 0;
                } else if (same != NONE) {
                    same = from + same < end && bytes[from + same] == c ? same + 1 : NONE;
                }
            }
            return UNKNOWN;
        }

        private static boolean isLetter(int c) {
            return within(c, 'a', 'z');
        }

        private static boolean isDigit(int c) {
            return within(c, '0', '9');
        }
    }

    /**
     * Reads a text into LINES. What a LINE reckons is kept as a row of steps for a stack, each a kind and, 8 bits
     * higher, a value; behind the left side of or, and stands a step that says where to go on if it is enough.
     */
    private static final class Reader {
        final Tape tape;
        int next;
        int fault;
        int faultPlace = NONE;
        int lines;
        final int[] sort = new int[MAX_TEXTS * MAX_LINES];
        final int[] number = new int[MAX_TEXTS * MAX_LINES];
        final int[] voids = new int[MAX_TEXTS * MAX_LINES];
        final int[] sumAt = new int[MAX_TEXTS * MAX_LINES];
        final int[] testAt = new int[MAX_TEXTS * MAX_LINES];
        final int[] endAt = new int[MAX_TEXTS * MAX_LINES];
        int steps;
        final int[] code = new int[MAX_TEXTS * TAPE];

        Reader(Tape tape) {
            this.tape = tape;
        }

        int readText(int n) {
            tape.cut(n);
            next = 0;
            fault = 0;
            faultPlace = NONE;
            int linesBefore = lines;
            int stepsBefore = steps;
            for (int k = 0; k <= MAX_LINES && kind() != END; k++) {
                readLine(k);
            }
            if (fault == 0) {
                return lines - linesBefore;
            }
            lines = linesBefore;
            steps = stepsBefore;
            return -10 - fault;
        }

        // Behind a fault all looks like the end, so that all reading comes to its own end.
        private int kind() {
            return fault == 0 && next < tape.tokens ? tape.kinds[next] : END;
        }

        private void fail(int what) {
            if (fault == 0 && next < tape.tokens) {
                fault = tape.kinds[next] == BROKEN ? NO_TOKEN : what;
                faultPlace = tape.places[next];
            }
        }

        private void take(int kind) {
            if (kind() == kind) {
                next++;
            } else {
                fail(MISPLACED);
            }
        }

        private static boolean isSaying(int kind) {
            return within(kind, WORD, VOID_WORD);
        }

        private void readLine(int k) {
            if (kind() != NUMBER && !isSaying(kind())) {
                fail(MISPLACED);
            } else if (k == MAX_LINES) {
                fail(TOO_MANY_LINES);
            }
            int line = lines;
            if (fault != 0 || line >= sort.length) {
                return;
            }
            number[line] = 0;
            if (kind() == NUMBER) {
                number[line] = readNumber();
                take(':');
            }
            sumAt[line] = steps;
            readSaying(line);
            testAt[line] = steps;
            if (kind() == UNLESS) {
                next++;
                readTest(0);
            }
            endAt[line] = steps;
            take(';');
            lines++;
        }

        private int readNumber() {
            if (kind() != NUMBER) {
                fail(MISPLACED);
                return 0;
            }
            int value = tape.values[next];
            if (!within(value, 1, MAX_NUMBER)) {
                fail(BAD_NUMBER);
                return 0;
            }
            next++;
            return value;
        }

        private void readSaying(int line) {
            int word = kind();
            if (!isSaying(word)) {
                fail(MISPLACED);
                return;
            }
            next++;
            sort[line] = word <= RANK_WORD ? word - WORD : word - WORD + BEARS - RANK - 1;
            voids[line] = 0;
            if (word == VOID_WORD) {
                voids[line] = readNumber();
            } else if (word == BAN_WORD) {
                emit(NUMBER, 1);
            } else if (word == LOSS_WORD) {
                emit(NUMBER, readChoice(PAYER, TELLER, TELLER));
            } else {
                if (word == RANK_WORD) {
                    sort[line] += readChoice(KIN_NAME, NEAR, FAR);
                }
                readSum(0);
            }
        }

        private int readChoice(int first, int second, int third) {
            int word = kind();
            if (word != first && word != second && word != third) {
                fail(MISPLACED);
                return 0;
            }
            next++;
            if (word == first) {
                return 0;
            }
            return word == second ? 1 : 2;
        }

        private void readTest(int nest) {
            readPart(nest);
            for (int k = 0; k < TAPE && kind() == OR; k++) {
                next++;
                int gate = emit(OR, 0);
                readPart(nest);
                leadHere(gate);
            }
        }

        private void readPart(int nest) {
            readOne(nest);
            for (int k = 0; k < TAPE && kind() == AND; k++) {
                next++;
                int gate = emit(AND, 0);
                readOne(nest);
                leadHere(gate);
            }
        }

        private void readOne(int nest) {
            if (kind() == NOT) {
                if (opens(nest)) {
                    readOne(nest + 1);
                    emit(NOT, 0);
                }
            } else if (kind() == '[') {
                if (opens(nest)) {
                    readTest(nest + 1);
                    take(']');
                }
            } else {
                readSum(nest);
                int compares = kind();
                if (compares == '<' || compares == '>' || compares == '=') {
                    next++;
                    readSum(nest);
                    emit(compares, 0);
                } else {
                    fail(MISPLACED);
                }
            }
        }

        private boolean opens(int nest) {
            if (nest >= MAX_NEST) {
                fail(TOO_DEEP);
                return false;
            }
            next++;
            return true;
        }

        private void readSum(int nest) {
            readItem(nest);
            for (int k = 0; k < TAPE && (kind() == '+' || kind() == '-'); k++) {
                int sign = kind();
                next++;
                readItem(nest);
                emit(sign, 0);
            }
        }

        private void readItem(int nest) {
            readAtom(nest);
            for (int k = 0; k < TAPE && (kind() == '*' || kind() == '/' || kind() == '%'); k++) {
                int sign = kind();
                next++;
                readAtom(nest);
                emit(sign, 0);
            }
        }

        private void readAtom(int nest) {
            int kind = kind();
            if (kind == NUMBER) {
                emit(NUMBER, tape.values[next]);
                next++;
            } else if (within(kind, FIRST_NAME, LAST_NAME)) {
                emit(kind, 0);
                next++;
            } else if (kind == '(') {
                if (opens(nest)) {
                    readSum(nest + 1);
                    take(')');
                }
            } else {
                fail(MISPLACED);
            }
        }

        private int emit(int kind, int value) {
            if (fault != 0 || steps >= code.length) {
                return NONE;
            }
            code[steps] = kind | value << 8;
            steps++;
            return steps - 1;
        }

        private void leadHere(int gate) {
            if (gate != NONE) {
                code[gate] |= steps << 8;
            }
        }
    }

    /** TEXTS by TOWNS and DAYS, and what their LINES say when they are ASKED. */
    private static final class Custom {
        final Land land;
        final Brokers brokers;
        final Reader reader;
        int texts;
        final int[] order = new int[MAX_TEXTS];
        final int[] towns = new int[MAX_TEXTS];
        final int[] since = new int[MAX_TEXTS];
        final int[] first = new int[MAX_TEXTS];
        final int[] size = new int[MAX_TEXTS];
        final long[] names = new long[LAST_NAME - FIRST_NAME + 1];
        final int[] voidedIn = new int[MAX_NUMBER + 1];
        int walk;
        final long[] stack = new long[STACK];
        int top;
        boolean divided;

        Custom(Land land, Brokers brokers, Reader reader) {
            this.land = land;
            this.brokers = brokers;
            this.reader = reader;
        }

        boolean hasRoom() {
            return texts < MAX_TEXTS;
        }

        // Its lines are those that were read last.
        void addText(int lines, int forTowns, int fromDay) {
            if (texts >= MAX_TEXTS) {
                return;
            }
            towns[texts] = forTowns;
            since[texts] = fromDay;
            first[texts] = reader.lines - lines;
            size[texts] = lines;
            int place = texts;
            while (place > 0 && since[order[place - 1]] > fromDay) {
                order[place] = order[place - 1];
                place--;
            }
            order[place] = texts;
            texts++;
        }

        private boolean stands(int text, int town, int day) {
            return holds(towns[text], town) && since[text] <= day;
        }

        // LINES are walked from the last to the first: what voids a LINE has been seen when the LINE comes.
        int countLines(int town, int day, boolean voidOnes) {
            walk++;
            int n = 0;
            for (int k = texts - 1; k >= 0; k--) {
                int text = order[k];
                int end = stands(text, town, day) ? first[text] + size[text] : 0;
                for (int line = end - 1; line >= first[text]; line--) {
                    n += !voidOnes || isVoid(line) ? 1 : 0;
                    noteVoid(line);
                }
            }
            return n;
        }

        private boolean isVoid(int line) {
            return reader.number[line] != 0 && voidedIn[reader.number[line]] == walk;
        }

        private void noteVoid(int line) {
            if (reader.sort[line] == VOID) {
                voidedIn[reader.voids[line]] = walk;
            }
        }

        int ask(int a, int b, long n, int coin, int what) {
            setNames(a, b, n, coin);
            walk++;
            for (int k = texts - 1; k >= 0; k--) {
                int text = order[k];
                int end = stands(text, brokers.town[a], land.now) ? first[text] + size[text] : 0;
                for (int line = end - 1; line >= first[text]; line--) {
                    if (reader.sort[line] == what && !isVoid(line) && speaks(line)) {
                        return (int) Math.max(LEAST[what], Math.min(MOST[what], stack[0]));
                    }
                    noteVoid(line);
                }
            }
            return UNSAID[what];
        }

        private void setNames(int a, int b, long n, int coin) {
            names[0] = n;
            names[1] = coin;
            names[2] = brokers.lagTo(a, b);
            names[3] = brokers.seasons(a);
            names[4] = brokers.kin[a] == brokers.kin[b] ? 1 : 0;
            names[5] = land.now;
            names[6] = land.now / SEASON % 4;
            names[7] = brokers.town[a];
            names[8] = brokers.town[b];
        }

        // What it says is left at the bottom of the stack.
        private boolean speaks(int line) {
            int test = reader.testAt[line];
            int end = reader.endAt[line];
            if (test < end) {
                reckon(test, end);
                if (divided || stack[0] != 0) {
                    return false;
                }
            }
            reckon(reader.sumAt[line], test);
            return !divided;
        }

        private void reckon(int from, int to) {
            top = 0;
            divided = false;
            for (int at = from; at < to && !divided; at++) {
                int kind = reader.code[at] & 255;
                int value = reader.code[at] >> 8;
                if (kind == NUMBER) {
                    push(value);
                } else if (within(kind, FIRST_NAME, LAST_NAME)) {
                    push(names[kind - FIRST_NAME]);
                } else if (kind == NOT) {
                    push(pop() == 0 ? 1 : 0);
                } else if (kind == OR || kind == AND) {
                    long left = pop();
                    if (left != 0 == (kind == OR)) {
                        push(left);
                        at = Math.max(at, value - 1);
                    }
                } else {
                    long right = pop();
                    push(join(kind, pop(), right));
                }
            }
        }

        private void push(long n) {
            if (top < stack.length) {
                stack[top] = n;
                top++;
            }
        }

        private long pop() {
            if (top <= 0) {
                return 0;
            }
            top--;
            return stack[top];
        }

        private long join(int sign, long left, long right) {
            if ((sign == '/' || sign == '%') && right == 0) {
                divided = true;
                return 0;
            }
            switch (sign) {
                case '+': return left + right;
                case '-': return left - right;
                case '*': return left * right;
                case '/': return left / right;
                case '%': return left % right;
                case '<': return left < right ? 1 : 0;
                case '>': return left > right ? 1 : 0;
                default: return left == right ? 1 : 0;
            }
        }
    }

    /** WORDS and their TWINS. */
    private static final class Words {
        final Land land;
        final Brokers brokers;
        final Ledger ledger;
        final Custom custom;
        int many;
        final int[] teller = new int[MAX_WORDS];
        final int[] payer = new int[MAX_WORDS];
        final int[] coin = new int[MAX_WORDS];
        final int[] amount = new int[MAX_WORDS];
        final int[] secret = new int[MAX_WORDS];
        final int[] ready = new int[MAX_WORDS];
        final int[] stop = new int[MAX_WORDS];
        final int[] paidOn = new int[MAX_WORDS];
        final int[] wrong = new int[MAX_WORDS];
        final int[] other = new int[MAX_WORDS];
        final int[] fee = new int[MAX_WORDS];
        final boolean[] isTwin = new boolean[MAX_WORDS];
        final boolean[] taken = new boolean[MAX_WORDS];

        Words(Land land, Brokers brokers, Ledger ledger, Custom custom) {
            this.land = land;
            this.brokers = brokers;
            this.ledger = ledger;
            this.custom = custom;
        }

        boolean hasRoom() {
            return many < MAX_WORDS;
        }

        boolean canTell(int a, int b, int ofCoin, int n) {
            if (brokers.hasFallen(a) || brokers.hasFallen(b) || brokers.lagTo(a, b) == NONE
                    || custom.ask(a, b, n, ofCoin, BAN) == 1) {
                return false;
            }
            int town = brokers.town[a];
            long owed = ledger.netWorth(a, b, town) + land.worthNow(n, ofCoin, town);
            return owed <= custom.ask(a, b, n, ofCoin, BOUND);
        }

        int addTold(int a, int b, int ofCoin, int n, int bySecret) {
            int word = addWord(a, b, ofCoin, n, bySecret);
            fee[word] = custom.ask(a, b, n, ofCoin, FEE);
            brokers.gets(a, ofCoin, (long) n + fee[word]);
            return word;
        }

        private int addWord(int a, int b, int ofCoin, int n, int bySecret) {
            int word = many;
            teller[word] = a;
            payer[word] = b;
            coin[word] = ofCoin;
            amount[word] = n;
            secret[word] = bySecret;
            ready[word] = land.now + brokers.lagTo(a, b);
            stop[word] = ready[word] + custom.ask(a, b, n, ofCoin, DIES);
            paidOn[word] = NONE;
            other[word] = NONE;
            many++;
            return word;
        }

        private boolean isPaid(int word) {
            return paidOn[word] != NONE;
        }

        private boolean tellerHeardPaid(int word) {
            return isPaid(word) && land.isHeard(brokers.town[payer[word]], paidOn[word],
                    brokers.town[teller[word]], land.now);
        }

        // What was done on a day where a broker is ends a word as soon as its payer hears of it.
        private void stopWhenHeard(int word, int broker, int day) {
            int lag = brokers.lagTo(broker, payer[word]);
            if (lag != NONE && !isPaid(word)) {
                stop[word] = Math.min(stop[word], day + lag);
            }
        }

        boolean canPay(int word) {
            return !isPaid(word) && ready[word] <= land.now && stop[word] > land.now
                    && !brokers.hasFallen(payer[word]) && brokers.has(payer[word], coin[word]) >= amount[word];
        }

        int hearSecret(int word, int said) {
            if (said == secret[word]) {
                return payOut(word);
            }
            wrong[word]++;
            if (wrong[word] == 3) {
                stop[word] = land.now;
            }
            return 0;
        }

        private int payOut(int word) {
            int a = teller[word];
            int b = payer[word];
            brokers.gets(b, coin[word], -amount[word]);
            paidOn[word] = land.now;
            if (other[word] != NONE) {
                if (isPaid(other[word]) && custom.ask(a, b, amount[word], coin[word], LOSS) == 0) {
                    return 2;
                }
                stopWhenHeard(other[word], b, land.now);
            }
            ledger.record(brokers.town[b], a, b, coin[word], amount[word], 0);
            return 1;
        }

        boolean canTakeBack(int word) {
            int a = teller[word];
            return !isTwin[word] && !taken[word] && !brokers.hasFallen(a) && !tellerHeardPaid(word)
                    && (other[word] == NONE || !tellerHeardPaid(other[word]))
                    && brokers.has(a, coin[word]) >= amount[word];
        }

        int takeBack(int word) {
            int a = teller[word];
            taken[word] = true;
            brokers.gets(a, coin[word], -amount[word]);
            boolean paid = isPaid(word);
            stopWhenHeard(word, a, land.now);
            if (other[word] != NONE) {
                paid = paid || isPaid(other[word]);
                stopWhenHeard(other[word], a, land.now);
            }
            return paid ? 0 : 1;
        }

        boolean canTwin(int word, int broker) {
            int a = teller[word];
            return !isTwin[word] && other[word] == NONE && !tellerHeardPaid(word) && !taken[word]
                    && stop[word] > land.now && broker != a && broker != payer[word]
                    && !brokers.hasFallen(broker) && !brokers.hasFallen(a) && brokers.lagTo(a, broker) != NONE;
        }

        int addTwin(int word, int broker) {
            int twin = addWord(teller[word], broker, coin[word], amount[word], secret[word]);
            isTwin[twin] = true;
            other[twin] = word;
            other[word] = twin;
            if (isPaid(word)) {
                stopWhenHeard(twin, payer[word], paidOn[word]);
            }
            return twin;
        }

        void stopAllOf(int broker) {
            for (int word = 0; word < many; word++) {
                if (teller[word] == broker) {
                    stopWhenHeard(word, broker, land.now);
                }
            }
        }

        private int state(int word) {
            if (isPaid(word)) {
                return 1;
            }
            if (taken[word] || isTwin[word] && taken[other[word]]) {
                return 2;
            }
            return stop[word] <= land.now ? 3 : 0;
        }

        int detail(int word, int what) {
            switch (what) {
                case 0: return teller[word];
                case 1: return payer[word];
                case 2: return coin[word];
                case 3: return amount[word];
                case 4: return ready[word];
                case 5: return stop[word];
                case 6: return state(word);
                case 7: return wrong[word];
                case 8: return other[word];
                default: return fee[word];
            }
        }

        void takeDue(int broker, int ofCoin, long[] changes) {
            for (int word = 0; word < many; word++) {
                int day = Math.max(ready[word], land.now);
                if (payer[word] == broker && coin[word] == ofCoin && !isPaid(word)
                        && stop[word] > land.now && stop[word] > ready[word] && day < changes.length) {
                    changes[day] -= amount[word];
                }
            }
        }
    }

    /** RINGS, and the FEWEST settlings. */
    private static final class Clearing {
        final Brokers brokers;
        final Ledger ledger;
        final int[] path = new int[RING];
        final int[] best = new int[RING];
        int ringSize;
        long ringCross;
        final int[] members = new int[GROUPED];
        final long[] balance = new long[GROUPED];
        final long[] sums = new long[1 << GROUPED];
        final int[] groups = new int[1 << GROUPED];
        int settlings;
        final int[] payers = new int[GROUPED];
        final int[] takers = new int[GROUPED];
        final long[] amounts = new long[GROUPED];

        Clearing(Brokers brokers, Ledger ledger) {
            this.brokers = brokers;
            this.ledger = ledger;
        }

        void findRing(int coin, int most) {
            ringSize = 0;
            ringCross = 0;
            for (int start = 0; start < brokers.many; start++) {
                path[0] = start;
                extend(coin, most, 1, Long.MAX_VALUE);
            }
        }

        // Rings of one size are met in the order of their numbers, so a like one that comes later is no better.
        private void extend(int coin, int most, int size, long least) {
            int last = path[size - 1];
            long closing = Math.min(least, ledger.net(last, path[0], coin));
            if (size >= 3 && closing > 0 && isBetter(size, closing)) {
                System.arraycopy(path, 0, best, 0, size);
                ringSize = size;
                ringCross = closing;
            }
            for (int to = path[0] + 1; to < brokers.many && size < most; to++) {
                long net = ledger.net(last, to, coin);
                if (net > 0 && !isOnPath(to, size)) {
                    path[size] = to;
                    extend(coin, most, size + 1, Math.min(least, net));
                }
            }
        }

        private boolean isBetter(int size, long cross) {
            long more = cross * size - ringCross * ringSize;
            return more > 0 || more == 0 && size < ringSize;
        }

        private boolean isOnPath(int broker, int size) {
            for (int k = 0; k < size; k++) {
                if (path[k] == broker) {
                    return true;
                }
            }
            return false;
        }

        int crossOut(int coin) {
            for (int k = 0; k < ringSize; k++) {
                int to = best[k + 1 < ringSize ? k + 1 : 0];
                ledger.record(brokers.town[to], best[k], to, coin, (int) -ringCross, 3);
            }
            return (int) ringCross;
        }

        void findSettlings(int coin, int set) {
            settlings = 0;
            int size = takeMembers(coin, set);
            int all = (1 << size) - 1;
            countGroups(all);
            int rest = all;
            for (int k = 0; k < GROUPED && rest != 0; k++) {
                int group = leastGroup(rest);
                settleGroup(group, size);
                rest &= ~group;
            }
        }

        private int takeMembers(int coin, int set) {
            int size = 0;
            for (int a = 0; a < brokers.many; a++) {
                long owed = 0;
                for (int b = 0; b < brokers.many && holds(set, a); b++) {
                    owed += holds(set, b) ? ledger.net(b, a, coin) : 0;
                }
                if (owed != 0 && size < GROUPED) {
                    members[size] = a;
                    balance[size] = owed;
                    size++;
                }
            }
            return size;
        }

        // groups[part]: the most GROUPS that a part has, NONE if it isn't 0 together.
        private void countGroups(int all) {
            sums[0] = 0;
            groups[0] = 0;
            for (int part = 1; part <= all; part++) {
                int lowest = Integer.numberOfTrailingZeros(part);
                sums[part] = sums[part & part - 1] + balance[lowest];
                groups[part] = sums[part] == 0 ? mostGroups(part) : NONE;
            }
        }

        private int mostGroups(int part) {
            int least = part & -part;
            int most = 1;
            for (int rest = part & part - 1; rest > 0; rest = rest - 1 & part) {
                if ((rest & least) == 0 && groups[rest] != NONE) {
                    most = Math.max(most, groups[rest] + 1);
                }
            }
            return most;
        }

        private int leastGroup(int part) {
            int least = part & -part;
            for (int group = 1; group < part; group++) {
                if ((group & part) == group && (group & least) != 0 && sums[group] == 0
                        && groups[part & ~group] == groups[part] - 1) {
                    return group;
                }
            }
            return part;
        }

        private void settleGroup(int group, int size) {
            for (int k = 0; k < GROUPED && settlings < GROUPED; k++) {
                int debtor = firstOf(group, size, -1);
                int creditor = firstOf(group, size, 1);
                if (debtor == NONE || creditor == NONE) {
                    return;
                }
                long amount = Math.min(-balance[debtor], balance[creditor]);
                balance[debtor] += amount;
                balance[creditor] -= amount;
                payers[settlings] = members[debtor];
                takers[settlings] = members[creditor];
                amounts[settlings] = amount;
                settlings++;
            }
        }

        private int firstOf(int group, int size, int sign) {
            for (int k = 0; k < size; k++) {
                if (holds(group, k) && balance[k] * sign > 0) {
                    return k;
                }
            }
            return NONE;
        }
    }

    /** What is EXPECTED, DRY drawers and PLANS. */
    private static final class Coming {
        final Land land;
        final Brokers brokers;
        final Ledger ledger;
        final Words words;
        int many;
        final int[] whose = new int[MAX_EXPECTED];
        final int[] coin = new int[MAX_EXPECTED];
        final int[] day = new int[MAX_EXPECTED];
        final int[] low = new int[MAX_EXPECTED];
        final int[] high = new int[MAX_EXPECTED];
        final long[] changes = new long[LAST_DAY + 1];
        final int[] owing = new int[DEBTS];
        final int[] owed = new int[DEBTS];
        final long[] amount = new long[DEBTS];
        final int[] week = new int[DEBTS];
        final int[] best = new int[DEBTS];
        final long[] behind = new long[MAX_BROKERS];
        final boolean[] fits = new boolean[WEEKS + 1 << DEBTS];
        int latest;

        Coming(Land land, Brokers brokers, Ledger ledger, Words words) {
            this.land = land;
            this.brokers = brokers;
            this.ledger = ledger;
            this.words = words;
        }

        int addExpected(int broker, int ofCoin, int onDay, int least, int most) {
            if (many >= MAX_EXPECTED) {
                return NONE;
            }
            whose[many] = broker;
            coin[many] = ofCoin;
            day[many] = onDay;
            low[many] = least;
            high[many] = most;
            many++;
            return many - 1;
        }

        int dryDay(int broker, int ofCoin, boolean surely) {
            Arrays.fill(changes, 0L);
            for (int k = 0; k < many; k++) {
                if (whose[k] == broker && coin[k] == ofCoin) {
                    changes[day[k]] += surely ? high[k] : low[k];
                }
            }
            if (!surely) {
                words.takeDue(broker, ofCoin, changes);
            }
            long left = brokers.has(broker, ofCoin);
            for (int at = land.now; at <= LAST_DAY; at++) {
                left += changes[at];
                if (left < 0) {
                    return at;
                }
            }
            return NONE;
        }

        boolean takeDebts(int ofCoin, long debts, int size) {
            for (int k = 0; k < size; k++) {
                int debt = (int) (debts >>> 8 * k & 255L);
                owing[k] = debt & 15;
                owed[k] = debt >> 4;
                if (owing[k] >= brokers.many || owed[k] >= brokers.many || isTakenTwice(k)) {
                    return false;
                }
                amount[k] = ledger.net(owing[k], owed[k], ofCoin);
                if (amount[k] <= 0) {
                    return false;
                }
            }
            return true;
        }

        private boolean isTakenTwice(int debt) {
            for (int k = 0; k < debt; k++) {
                if (owing[k] == owing[debt] && owed[k] == owed[debt]) {
                    return true;
                }
            }
            return false;
        }

        // All plans in the order of their weeks, so that a like one that comes later is no better.
        void findPlan(int ofCoin, int size, int weeks) {
            for (int w = 1; w <= weeks; w++) {
                foreseeWeek(ofCoin, size, w);
            }
            latest = NONE;
            int bestSum = 0;
            int plans = 1;
            for (int k = 0; k < size; k++) {
                week[k] = 1;
                plans *= weeks;
            }
            for (int k = 0; k < plans; k++) {
                int last = latestWeek(size);
                int sum = sumOfWeeks(size);
                boolean better = latest == NONE || last < latest || last == latest && sum < bestSum;
                if (better && isRight(size, weeks)) {
                    latest = last;
                    bestSum = sum;
                    System.arraycopy(week, 0, best, 0, size);
                }
                nextPlan(size, weeks);
            }
        }

        // fits[]: whether all drawers bear it if just a part of the debts is settled behind a week.
        private void foreseeWeek(int ofCoin, int size, int w) {
            for (int broker = 0; broker < brokers.many; broker++) {
                behind[broker] = brokers.has(broker, ofCoin);
            }
            for (int k = 0; k < many; k++) {
                if (coin[k] == ofCoin && within(day[k], land.now, land.now + 7 * w)) {
                    behind[whose[k]] += low[k];
                }
            }
            for (int part = 0; part < 1 << size; part++) {
                settlePart(part, size, 1);
                fits[w << DEBTS | part] = nobodyBelow();
                settlePart(part, size, -1);
            }
        }

        private void settlePart(int part, int size, int sign) {
            for (int k = 0; k < size; k++) {
                if (holds(part, k)) {
                    behind[owing[k]] -= sign * amount[k];
                    behind[owed[k]] += sign * amount[k];
                }
            }
        }

        private boolean nobodyBelow() {
            for (int broker = 0; broker < brokers.many; broker++) {
                if (behind[broker] < 0) {
                    return false;
                }
            }
            return true;
        }

        private int latestWeek(int size) {
            int last = 0;
            for (int k = 0; k < size; k++) {
                last = Math.max(last, week[k]);
            }
            return last;
        }

        private int sumOfWeeks(int size) {
            int sum = 0;
            for (int k = 0; k < size; k++) {
                sum += week[k];
            }
            return sum;
        }

        private void nextPlan(int size, int weeks) {
            for (int k = size - 1; k >= 0; k--) {
                if (week[k] < weeks) {
                    week[k]++;
                    return;
                }
                week[k] = 1;
            }
        }

        private boolean isRight(int size, int weeks) {
            for (int w = 1; w <= weeks; w++) {
                int part = 0;
                for (int k = 0; k < size; k++) {
                    part |= week[k] <= w ? 1 << k : 0;
                }
                if (!fits[w << DEBTS | part]) {
                    return false;
                }
            }
            return true;
        }
    }

    /** What is left of a BROKER, and who has it: falls, RUIN and RUNS. */
    private static final class Estates {
        final Land land;
        final Brokers brokers;
        final Ledger ledger;
        final Custom custom;
        final Words words;
        int weighed;
        final long[] claims = new long[MAX_BROKERS * MAX_BROKERS];
        final int[] ranks = new int[MAX_BROKERS * MAX_BROKERS];
        final long[] weights = new long[MAX_BROKERS];
        final long[] rests = new long[MAX_BROKERS];
        final long[] shares = new long[MAX_BROKERS];
        final long[] borne = new long[MAX_BROKERS];
        final long[] helps = new long[MAX_BROKERS];
        final long[] wealths = new long[MAX_BROKERS];
        long missing;
        int down;
        int rounds;

        Estates(Land land, Brokers brokers, Ledger ledger, Custom custom, Words words) {
            this.land = land;
            this.brokers = brokers;
            this.ledger = ledger;
            this.custom = custom;
            this.words = words;
        }

        private int standing() {
            return (1 << brokers.many) - 1 & ~brokers.fallenSet();
        }

        // Neither claims nor ranks change while a call asks, so each debtor is weighed once.
        private void weigh(int debtor) {
            if (holds(weighed, debtor)) {
                return;
            }
            weighed |= 1 << debtor;
            for (int k = 0; k < brokers.many; k++) {
                long claim = ledger.claimOn(debtor, k);
                claims[debtor * MAX_BROKERS + k] = claim;
                ranks[debtor * MAX_BROKERS + k] =
                        claim > 0 ? custom.ask(debtor, k, claim, 0, whomOf(debtor, k)) : 0;
            }
        }

        private int whomOf(int debtor, int creditor) {
            if (brokers.kin[debtor] == brokers.kin[creditor]) {
                return RANK;
            }
            return brokers.town[debtor] == brokers.town[creditor] ? RANK + 1 : RANK + 2;
        }

        private int creditorsOf(int debtor, int among) {
            int set = 0;
            for (int k = 0; k < brokers.many; k++) {
                if (holds(among, k) && claims[debtor * MAX_BROKERS + k] > 0) {
                    set |= 1 << k;
                }
            }
            return set;
        }

        private void shareOut(int debtor, int creditors) {
            Arrays.fill(shares, 0L);
            System.arraycopy(claims, debtor * MAX_BROKERS, weights, 0, MAX_BROKERS);
            long left = brokers.drawerWorth(debtor);
            int waiting = creditors;
            for (int k = 0; k < MAX_BROKERS && waiting != 0; k++) {
                int group = firstRanked(debtor, waiting);
                left -= split(Math.min(left, weightOf(group)), group, shares);
                waiting &= ~group;
            }
        }

        private int firstRanked(int debtor, int waiting) {
            int group = 0;
            int top = Integer.MIN_VALUE;
            for (int k = 0; k < brokers.many; k++) {
                int rank = ranks[debtor * MAX_BROKERS + k];
                if (holds(waiting, k) && rank >= top) {
                    group = rank > top ? 1 << k : group | 1 << k;
                    top = rank;
                }
            }
            return group;
        }

        private long weightOf(int set) {
            long sum = 0;
            for (int k = 0; k < brokers.many; k++) {
                sum += holds(set, k) ? weights[k] : 0;
            }
            return sum;
        }

        private long split(long sum, int set, long[] parts) {
            long all = weightOf(set);
            if (all <= 0) {
                return 0;
            }
            long left = sum;
            for (int k = 0; k < brokers.many; k++) {
                rests[k] = NONE;
                if (holds(set, k)) {
                    parts[k] = sum * weights[k] / all;
                    rests[k] = sum * weights[k] % all;
                    left -= parts[k];
                }
            }
            for (; left > 0; left--) {
                int k = greatestRest();
                parts[k]++;
                rests[k] = NONE;
            }
            return sum;
        }

        private int greatestRest() {
            int best = 0;
            for (int k = 1; k < brokers.many; k++) {
                if (rests[k] > rests[best]) {
                    best = k;
                }
            }
            return best;
        }

        // All that a fall would bring, without a change; how many ENTRIES that is.
        int foresee(int broker) {
            weighed = 0;
            weigh(broker);
            int creditors = creditorsOf(broker, standing());
            shareOut(broker, creditors);
            missing = 0;
            for (int k = 0; k < MAX_BROKERS; k++) {
                weights[k] = holds(creditors, k) ? weights[k] - shares[k] : 0;
                missing += weights[k];
            }
            Arrays.fill(helps, 0L);
            split(bear(broker), creditors, helps);
            int entries = 0;
            for (int k = 0; k < brokers.many; k++) {
                entries += (shares[k] > 0 ? 1 : 0) + (helps[k] > 0 ? 1 : 0);
            }
            return entries;
        }

        private long bear(int broker) {
            Arrays.fill(borne, 0L);
            int kin = kinOf(broker);
            int heads = Integer.bitCount(kin);
            if (heads == 0) {
                return 0;
            }
            long each = missing * custom.ask(broker, broker, missing, 0, BEARS) / 100 / heads;
            long sum = 0;
            for (int k = 0; k < brokers.many; k++) {
                if (holds(kin, k)) {
                    borne[k] = Math.min(each, Math.min(DRAWER_FULL, brokers.has(k, 0) + shares[k]));
                    sum += borne[k];
                }
            }
            return sum;
        }

        private int kinOf(int broker) {
            int set = 0;
            for (int k = 0; k < brokers.many; k++) {
                if (k != broker && brokers.kin[k] == brokers.kin[broker] && !brokers.hasFallen(k)) {
                    set |= 1 << k;
                }
            }
            return set;
        }

        // What foresee() found comes to be.
        long carryOut(int broker) {
            words.stopAllOf(broker);
            brokers.empty(broker);
            brokers.fellOn[broker] = land.now;
            handOut(broker, shares, 4);
            for (int k = 0; k < brokers.many; k++) {
                brokers.gets(k, 0, -borne[k]);
                missing -= borne[k];
            }
            handOut(broker, helps, 5);
            return missing;
        }

        private void handOut(int broker, long[] parts, int sort) {
            for (int k = 0; k < brokers.many; k++) {
                if (parts[k] > 0) {
                    brokers.gets(k, 0, parts[k]);
                    ledger.record(brokers.town[broker], broker, k, 0, (int) -parts[k], sort);
                }
            }
        }

        void bringDown(int broker) {
            weighed = 0;
            rounds = 0;
            down = brokers.fallenSet() | 1 << broker;
            for (int k = 0; k < MAX_BROKERS; k++) {
                measureWealth();
                int more = 0;
                for (int x = 0; x < brokers.many; x++) {
                    more |= !holds(down, x) && wealths[x] < 0 ? 1 << x : 0;
                }
                if (more == 0) {
                    return;
                }
                down |= more;
                rounds++;
            }
        }

        long wealthOf(int broker) {
            weighed = 0;
            down = brokers.fallenSet();
            measureWealth();
            return wealths[broker];
        }

        private void measureWealth() {
            for (int x = 0; x < brokers.many; x++) {
                wealths[x] = brokers.drawerWorth(x);
            }
            for (int debtor = 0; debtor < brokers.many; debtor++) {
                boolean isDown = holds(down, debtor);
                if (isDown) {
                    weigh(debtor);
                    shareOut(debtor, creditorsOf(debtor, ~down));
                }
                for (int x = 0; x < brokers.many; x++) {
                    long worth = x == debtor ? 0 : ledger.netWorth(debtor, x, brokers.town[x]);
                    wealths[x] += isDown && worth > 0 ? shares[x] : worth;
                }
            }
        }

        int comers(int broker, int days) {
            int set = 0;
            for (int k = 0; k < brokers.many; k++) {
                if (!brokers.hasFallen(k) && ledger.claimOn(broker, k) > 0
                        && within(brokers.lagTo(broker, k), 0, days)) {
                    set |= 1 << k;
                }
            }
            return set;
        }

        int firstUnpaid(int broker, int days) {
            int waiting = comers(broker, days);
            long left = brokers.drawerWorth(broker);
            for (int lag = 0; lag <= days && waiting != 0; lag++) {
                for (int k = 0; k < brokers.many; k++) {
                    if (holds(waiting, k) && brokers.lagTo(broker, k) == lag) {
                        left -= ledger.claimOn(broker, k);
                        waiting &= ~(1 << k);
                        if (left < 0) {
                            return k;
                        }
                    }
                }
            }
            return NONE;
        }
    }

    /** TRAYS: rows of numbers, each cut to its tray's sort. */
    private static final class Trays {
        final int[] sort = new int[TRAYS];
        final int[] size = new int[TRAYS];
        final long[] cells = new long[TRAYS * MAX_TRAY];

        Trays() {
            Arrays.fill(sort, NONE);
        }

        boolean isMissing(int tray) {
            return sort[tray] == NONE;
        }

        void renew(int tray, int ofSort, int many) {
            sort[tray] = ofSort;
            size[tray] = many;
            for (int place = 0; place < many; place++) {
                cells[tray * MAX_TRAY + place] = 0;
            }
        }

        void setNumber(int tray, int place, long v) {
            cells[tray * MAX_TRAY + place] = cutTo(sort[tray], v);
        }

        private static long cutTo(int ofSort, long v) {
            switch (ofSort) {
                case 0: return (byte) v;
                case 1: return (short) v;
                case 2: return (int) v;
                default: return v;
            }
        }

        long number(int tray, int place) {
            return cells[tray * MAX_TRAY + place];
        }

        void copy(int from, int place, int to, int at, int many) {
            System.arraycopy(cells, from * MAX_TRAY + place, cells, to * MAX_TRAY + at, many);
        }
    }
}
