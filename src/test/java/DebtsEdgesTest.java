/** Promises 21 to 27 and 32, sentence by sentence: what is too small, too large, full, a day early, refused. */
public final class DebtsEdgesTest {
    private static final int MIN = Integer.MIN_VALUE;
    private static final int MAX = Integer.MAX_VALUE;

    public static void main(String[] args) {
        owesBothWays();
        owesEachOfItsOwn();
        owesArguments();
        heardOnADay();
        heardOf400Entries();
        heardOfBothOne();
        heardByNoneOfTheTwo();
        heardArguments();
        claimBelow0();
        claimRoundedDown();
        claimInATown();
        claimArguments();
        settleNet();
        settleDrawer();
        settleMany();
        settleHasFallen();
        settle400Entries();
        settleAboveAll();
        settleArguments();
        marketPrices();
        marketArguments();
        marketsApart();
        goodsSoMany();
        goodsPrices();
        goodsHasFallen();
        goods400Entries();
        goodsArguments();
        hiddenBelow0();
        hiddenAsTheyWent();
        hiddenOfGoodsAlone();
        hiddenArguments();
        entryArguments();
        entriesTold();
        Check.end();
    }

    // Terms: NET "what ENTRIES from a to b say in all less those from b to a"
    private static void owesBothWays() {
        NoonWords x = House.inn(2);
        Check.is("21: without entries", 0, x.owes(0, 1, 0));
        House.owe(x, 0, 1, 0, 7);
        Check.is("21: a owes", 7, x.owes(0, 1, 0));
        Check.is("21: b is owed", -7, x.owes(1, 0, 0));
        House.owe(x, 1, 0, 0, 7);
        Check.is("21: nothing", 0, x.owes(0, 1, 0));
        House.owe(x, 1, 0, 0, 1);
        Check.is("21: below 0", -1, x.owes(0, 1, 0));
        Check.is("21: of itself", 0, x.owes(0, 0, 0));
        for (int k = 0; k < 397; k++) {
            x.goods(0, 1, 3, 0, 100, 1000);
        }
        Check.is("21: the most", 39700000, x.owes(1, 0, 3));
        Check.is("21: the least", -39700000, x.owes(0, 1, 3));
    }

    // Terms: "NET of two BROKERS a and b in a COIN"
    private static void owesEachOfItsOwn() {
        NoonWords x = House.inn(12);
        int many = 0;
        for (int a = 0; a < 12; a++) {
            for (int b = 0; b < a; b++) {
                many++;
                House.owe(x, a, b, many % 4, many);
            }
        }
        many = 0;
        for (int a = 0; a < 12; a++) {
            for (int b = 0; b < a; b++) {
                many++;
                Check.is("21: " + a + " and " + b, many, x.owes(a, b, many % 4));
                Check.is("21: another coin", 0, x.owes(a, b, (many + 1) % 4));
                Check.is("21: " + b + " and " + a, -many, x.owes(b, a, many % 4));
            }
        }
    }

    private static void owesArguments() {
        NoonWords x = House.inn(2);
        Check.is("21: the greatest coin", 0, x.owes(1, 0, 3));
        Check.argument("21: coin -1", () -> x.owes(0, 1, -1));
        Check.argument("21: coin 4", () -> x.owes(0, 1, 4));
        Check.none("21: a below 0", () -> x.owes(-1, 1, 0));
        Check.none("21: a, the next one", () -> x.owes(2, 1, 0));
        Check.none("21: b below 0", () -> x.owes(0, -1, 0));
        Check.none("21: b, the next one", () -> x.owes(0, 2, 0));
        Check.none("21: told first", () -> x.owes(2, 2, 4));
    }

    // Terms: "as HEARD in a TOWN on a DAY: by ENTRIES that are HEARD there then"
    private static void heardOnADay() {
        NoonWords x = House.row(3);
        x.go(10);
        House.owe(x, 0, 1, 0, 7);
        House.owe(x, 0, 1, 1, 70);
        // Goods went to town 0.
        Check.is("22: there, a day ahead", 0, x.heard(0, 0, 1, 0, 9));
        Check.is("22: there, that day", 7, x.heard(0, 0, 1, 0, 10));
        Check.is("22: three days away, a day ahead", 0, x.heard(1, 0, 1, 0, 12));
        Check.is("22: three days away, that day", 7, x.heard(1, 0, 1, 0, 13));
        Check.is("22: the other way", -7, x.heard(1, 1, 0, 0, 13));
        Check.is("22: another coin", 70, x.heard(1, 0, 1, 1, 13));
        x.go(1);
        House.owe(x, 1, 0, 0, 9);
        Check.is("22: of two days, a day ahead", 7, x.heard(0, 0, 1, 0, 13));
        Check.is("22: of two days, that day", -2, x.heard(0, 0, 1, 0, 14));
        Check.is("22: on the first day of all", 0, x.heard(0, 0, 1, 0, 0));
        Check.is("22: on the last day of all", -2, x.heard(0, 0, 1, 0, 999));
        x.town();
        x.broker(3, 0);
        House.owe(x, 3, 0, 0, 5);
        Check.is("22: without a lag", 0, x.heard(0, 3, 0, 0, 999));
        Check.is("22: in its own town", 5, x.heard(3, 3, 0, 0, 11));
    }

    // Terms: "ENTRIES, at most 400": each of them is heard
    private static void heardOf400Entries() {
        NoonWords x = House.inn(2);
        for (int k = 0; k < 400; k++) {
            House.owe(x, 0, 1, 0, k == 0 ? 300 : k == 399 ? 5 : 1);
        }
        Check.is("22: all of 400", 300 + 398 + 5, x.heard(0, 0, 1, 0, 0));
        Check.is("21: all of 400", 300 + 398 + 5, x.owes(0, 1, 0));
    }

    // 22: both may be one: nothing is owed then
    private static void heardOfBothOne() {
        NoonWords x = House.row(2);
        House.owe(x, 0, 1, 0, 7);
        Check.is("22: both are who asks", 0, x.heard(0, 0, 0, 0, 999));
        Check.state("22: both are another one", () -> x.heard(0, 1, 1, 0, 999));
    }

    // 22: "IllegalStateException: who asks is none of the two."
    private static void heardByNoneOfTheTwo() {
        NoonWords x = House.row(3);
        House.owe(x, 0, 1, 0, 7);
        Check.state("22: none", () -> x.heard(2, 0, 1, 0, 999));
        Check.is("22: the first", 7, x.heard(0, 0, 1, 0, 999));
        Check.is("22: the second", 7, x.heard(1, 0, 1, 0, 999));
    }

    // 22: "IllegalArgumentException: the COIN, or the DAY"
    private static void heardArguments() {
        NoonWords x = House.row(3);
        Check.is("22: the greatest coin, the last day", 0, x.heard(0, 0, 1, 3, 999));
        Check.argument("22: coin -1", () -> x.heard(0, 0, 1, -1, 0));
        Check.argument("22: coin 4", () -> x.heard(0, 0, 1, 4, 0));
        Check.argument("22: day -1", () -> x.heard(0, 0, 1, 0, -1));
        Check.argument("22: day 1000", () -> x.heard(0, 0, 1, 0, 1000));
        Check.argument("22: told ahead of the state", () -> x.heard(2, 0, 1, 0, 1000));
        Check.none("22: who asks below 0", () -> x.heard(-1, 0, 1, 0, 0));
        Check.none("22: who asks, the next one", () -> x.heard(3, 0, 1, 0, 0));
        Check.none("22: a below 0", () -> x.heard(0, -1, 0, 0, 0));
        Check.none("22: a, the next one", () -> x.heard(0, 3, 0, 0, 0));
        Check.none("22: b below 0", () -> x.heard(0, 0, -1, 0, 0));
        Check.none("22: b, the next one", () -> x.heard(0, 0, 3, 0, 0));
        Check.none("22: told first", () -> x.heard(0, 3, 1, 4, 1000));
    }

    // Terms: CLAIM "all together; 0 if that is below 0"
    private static void claimBelow0() {
        NoonWords x = House.inn(2);
        Check.is("23: nothing", 0, x.claim(0, 1));
        House.owe(x, 0, 1, 0, 5);
        House.owe(x, 1, 0, 2, 4);
        Check.is("23: just above 0", 1, x.claim(0, 1));
        Check.is("23: just below 0", 0, x.claim(1, 0));
        House.owe(x, 1, 0, 3, 1);
        Check.is("23: just 0", 0, x.claim(0, 1));
        Check.is("23: just 0", 0, x.claim(1, 0));
        Check.is("23: of itself", 0, x.claim(0, 0));
        for (int k = 0; k < 300; k++) {
            x.goods(0, 1, 3, 0, 100, 1000);
        }
        x.rate(0, 3, 1000);
        Check.is("23: a great one", 300L * 1000000 + 4 - 5 + 10, x.claim(1, 0));
    }

    // Terms: "WORTH of NET .. in each COIN": each rounded down
    private static void claimRoundedDown() {
        NoonWords x = House.inn(2);
        for (int coin = 1; coin < 4; coin++) {
            x.rate(0, coin, 50);
            House.owe(x, 0, 1, coin, 1);
        }
        Check.is("23: three halves", 0, x.claim(0, 1));
        House.owe(x, 0, 1, 1, 1);
        Check.is("23: one and two halves", 1, x.claim(0, 1));
        House.owe(x, 1, 0, 2, 2);
        Check.is("23: one, a half and a half below 0", 0, x.claim(0, 1));
        Check.is("23: the other way: -1, 0 and -1", 0, x.claim(1, 0));
        House.owe(x, 1, 0, 0, 4);
        Check.is("23: the other way: 4, -1, 0 and -1", 2, x.claim(1, 0));
    }

    // Terms: "in a's TOWN NOW"
    private static void claimInATown() {
        NoonWords x = House.row(2);
        House.owe(x, 0, 1, 1, 10);
        x.rate(1, 1, 300);
        Check.is("23: not heard in a's town", 10, x.claim(0, 1));
        x.go(2);
        Check.is("23: a day ahead", 10, x.claim(0, 1));
        x.go(1);
        Check.is("23: that day", 30, x.claim(0, 1));
    }

    private static void claimArguments() {
        NoonWords x = House.inn(2);
        Check.none("23: a below 0", () -> x.claim(-1, 0));
        Check.none("23: a, the next one", () -> x.claim(2, 0));
        Check.none("23: b below 0", () -> x.claim(0, -1));
        Check.none("23: b, the next one", () -> x.claim(0, 2));
    }

    /** Broker 0 owes 1 so many of coin 1 and has so many of it. */
    private static NoonWords debtor(int owes, int has) {
        NoonWords x = House.row(3);
        House.owe(x, 0, 1, 1, owes);
        x.put(0, 1, has);
        return x;
    }

    // 24: "NET of a and b .. is less than that"
    private static void settleNet() {
        NoonWords x = debtor(10, 50);
        Check.calm("24", x, () -> {
            Check.state("24: one above", () -> x.settle(0, 1, 1, 11));
            Check.state("24: another coin", () -> x.settle(0, 1, 0, 1));
            Check.state("24: who is owed", () -> x.settle(1, 0, 1, 1));
            Check.state("24: who isn't owed", () -> x.settle(0, 2, 1, 1));
            Check.state("24: far above", () -> x.settle(0, 1, 1, MAX));
        });
        Check.is("24: as many", 0, x.settle(0, 1, 1, 10));
        Check.calm("24", x, () -> Check.state("24: nothing is owed", () -> x.settle(0, 1, 1, 1)));
    }

    // 24: "or a's DRAWER is less than that"
    private static void settleDrawer() {
        NoonWords x = debtor(50, 10);
        x.put(0, 0, 99);
        Check.calm("24", x, () -> Check.state("24: one above", () -> x.settle(0, 1, 1, 11)));
        Check.is("24: as many", 40, x.settle(0, 1, 1, 10));
        Check.is("24: none is left", 0, x.drawer(0, 1));
        Check.calm("24", x, () -> Check.state("24: none is there", () -> x.settle(0, 1, 1, 1)));
    }

    // 24: "IllegalArgumentException: both are one, the COIN, or many is below 1"
    private static void settleMany() {
        NoonWords x = debtor(50, 50);
        Check.is("24: the least", 49, x.settle(0, 1, 1, 1));
        Check.calm("24", x, () -> {
            Check.argument("24: 0", () -> x.settle(0, 1, 1, 0));
            Check.argument("24: -1", () -> x.settle(0, 1, 1, -1));
            Check.argument("24: far below", () -> x.settle(0, 1, 1, MIN));
            Check.argument("24: both are one", () -> x.settle(0, 0, 1, 1));
            Check.argument("24: coin -1", () -> x.settle(0, 1, -1, 1));
            Check.argument("24: coin 4", () -> x.settle(0, 1, 4, 1));
        });
    }

    // 24: "IllegalStateException: one has FALLEN"
    private static void settleHasFallen() {
        NoonWords x = House.inn(3);
        House.owe(x, 0, 1, 1, 5);
        House.owe(x, 1, 2, 1, 5);
        House.owe(x, 0, 2, 1, 5);
        x.put(0, 1, 50);
        x.falls(1);
        Check.calm("24", x, () -> {
            Check.state("24: who is owed", () -> x.settle(0, 1, 1, 1));
            Check.state("24: who owes", () -> x.settle(1, 2, 1, 1));
            Check.argument("24: many is told first", () -> x.settle(0, 1, 1, 0));
        });
        Check.is("24: others", 4, x.settle(0, 2, 1, 1));
    }

    // 24: "or there are 400 ENTRIES"
    private static void settle400Entries() {
        NoonWords x = debtor(50, 50);
        House.fill(x, 1, 2, 398);
        Check.is("24: the last one", 49, x.settle(0, 1, 1, 1));
        Check.is("24: 400", 400, x.count(6));
        Check.calm("24", x, () -> Check.state("24: there are 400", () -> x.settle(0, 1, 1, 1)));
    }

    // Terms: "what comes in above that is gone"
    private static void settleAboveAll() {
        NoonWords x = debtor(50, 50);
        x.put(1, 1, 10000000 - 20);
        x.settle(0, 1, 1, 20);
        Check.is("24: just full", 10000000, x.drawer(1, 1));
        Check.is("24: all of it is gone, and counts", 10, x.settle(0, 1, 1, 20));
        Check.is("24: full yet", 10000000, x.drawer(1, 1));
        Check.is("24: it left", 10, x.drawer(0, 1));
        Check.is("32: the entry", -20, x.entry(2, 5));
    }

    private static void settleArguments() {
        NoonWords x = debtor(50, 50);
        Check.calm("24", x, () -> {
            Check.none("24: a below 0", () -> x.settle(-1, 1, 1, 1));
            Check.none("24: a, the next one", () -> x.settle(3, 1, 1, 1));
            Check.none("24: b below 0", () -> x.settle(0, -1, 1, 1));
            Check.none("24: b, the next one", () -> x.settle(0, 3, 1, 1));
            Check.none("24: told first", () -> x.settle(3, 3, 4, 0));
            Check.argument("24: told ahead of the state", () -> x.settle(1, 0, 4, 1));
        });
    }

    // Debts: MARKET "a price in COIN 0 (0 to 10,000; 0 at first)"; 25: "what it was"
    private static void marketPrices() {
        NoonWords x = House.towns(1);
        Check.is("25: 0 at first", 0, x.market(0, 0, 10000));
        Check.argument("25: -1", () -> x.market(0, 0, -1));
        Check.argument("25: 10,001", () -> x.market(0, 0, 10001));
        Check.argument("25: far above", () -> x.market(0, 0, MAX));
        Check.argument("25: far below", () -> x.market(0, 0, MIN));
        Check.is("25: the most", 10000, x.market(0, 0, 0));
        Check.is("25: the least", 0, x.market(0, 0, 0));
    }

    // 25: "IllegalArgumentException: the kind, or the price."
    private static void marketArguments() {
        NoonWords x = House.towns(2);
        Check.argument("25: kind -1", () -> x.market(0, -1, 0));
        Check.argument("25: kind 4", () -> x.market(0, 4, 0));
        Check.none("25: a town below 0", () -> x.market(-1, 0, 0));
        Check.none("25: the next town", () -> x.market(2, 0, 0));
        Check.none("25: told first", () -> x.market(2, 4, -1));
    }

    // Debts: "MARKET of a kind in a TOWN"
    private static void marketsApart() {
        NoonWords x = House.towns(8);
        for (int k = 0; k < 32; k++) {
            Check.is("25: at first", 0, x.market(k / 4, k % 4, k + 1));
        }
        for (int k = 0; k < 32; k++) {
            Check.is("25: its own", k + 1, x.market(k / 4, k % 4, 0));
        }
    }

    // Debts: "so many (1 to 100)"
    private static void goodsSoMany() {
        NoonWords x = House.inn(2);
        Check.is("26: the least", -7, x.goods(0, 1, 0, 0, 1, 7));
        Check.is("26: the most", -707, x.goods(0, 1, 0, 0, 100, 7));
        Check.calm("26", x, () -> {
            Check.argument("26: 0", () -> x.goods(0, 1, 0, 0, 0, 7));
            Check.argument("26: -1", () -> x.goods(0, 1, 0, 0, -1, 7));
            Check.argument("26: 101", () -> x.goods(0, 1, 0, 0, 101, 7));
            Check.argument("26: far above", () -> x.goods(0, 1, 0, 0, MAX, 7));
        });
    }

    // Debts: "at a price (0 to 1,000) of a COIN each"
    private static void goodsPrices() {
        NoonWords x = House.inn(2);
        Check.is("26: for nothing", 0, x.goods(0, 1, 0, 0, 100, 0));
        Check.is("26: an entry of 0", 1, x.count(6));
        Check.is("32: an entry of 0", 0, x.entry(0, 5));
        Check.is("26: the dearest", -1000, x.goods(0, 1, 0, 0, 1, 1000));
        Check.is("26: all there can be", -101000, x.goods(0, 1, 0, 0, 100, 1000));
        Check.is("32: all there can be", -100000, x.entry(2, 5));
        Check.calm("26", x, () -> {
            Check.argument("26: -1", () -> x.goods(0, 1, 0, 0, 1, -1));
            Check.argument("26: 1,001", () -> x.goods(0, 1, 0, 0, 1, 1001));
            Check.argument("26: far above", () -> x.goods(0, 1, 0, 0, 1, MAX));
        });
    }

    // 26: "IllegalStateException: one has FALLEN"
    private static void goodsHasFallen() {
        NoonWords x = House.inn(3);
        x.falls(1);
        Check.calm("26", x, () -> {
            Check.state("26: from whom fell", () -> x.goods(1, 0, 0, 0, 1, 1));
            Check.state("26: to whom fell", () -> x.goods(0, 1, 0, 0, 1, 1));
            Check.argument("26: an argument is told first", () -> x.goods(0, 1, 0, 0, 0, 1));
        });
        Check.is("26: others", -1, x.goods(0, 2, 0, 0, 1, 1));
    }

    // 26: "or there are 400 ENTRIES"
    private static void goods400Entries() {
        NoonWords x = House.inn(2);
        House.fill(x, 0, 1, 399);
        Check.is("26: the last one", -1, x.goods(0, 1, 0, 0, 1, 1));
        Check.calm("26", x, () -> {
            Check.state("26: there are 400", () -> x.goods(0, 1, 0, 0, 1, 1));
            Check.state("26: there are 400, even for nothing", () -> x.goods(0, 1, 0, 0, 1, 0));
        });
    }

    // 26: "IllegalArgumentException: both are one, or one of these is none such"
    private static void goodsArguments() {
        NoonWords x = House.inn(2);
        Check.is("26: the greatest coin and kind", -1, x.goods(0, 1, 3, 3, 1, 1));
        Check.calm("26", x, () -> {
            Check.argument("26: both are one", () -> x.goods(1, 1, 0, 0, 1, 1));
            Check.argument("26: coin -1", () -> x.goods(0, 1, -1, 0, 1, 1));
            Check.argument("26: coin 4", () -> x.goods(0, 1, 4, 0, 1, 1));
            Check.argument("26: kind -1", () -> x.goods(0, 1, 0, -1, 1, 1));
            Check.argument("26: kind 4", () -> x.goods(0, 1, 0, 4, 1, 1));
            Check.none("26: a below 0", () -> x.goods(-1, 1, 0, 0, 1, 1));
            Check.none("26: a, the next one", () -> x.goods(2, 1, 0, 0, 1, 1));
            Check.none("26: b below 0", () -> x.goods(0, -1, 0, 0, 1, 1));
            Check.none("26: b, the next one", () -> x.goods(0, 2, 0, 0, 1, 1));
            Check.none("26: told first", () -> x.goods(2, 2, 4, 4, 0, -1));
        });
    }

    // Debts: HIDDEN "less MARKET there for each, .. together": below 0 too
    private static void hiddenBelow0() {
        NoonWords x = House.inn(2);
        Check.is("27: nothing went", 0, x.hidden(0, 1));
        x.goods(0, 1, 0, 0, 10, 7);
        Check.is("27: a market of 0", 70, x.hidden(0, 1));
        x.market(0, 0, 7);
        x.goods(0, 1, 0, 0, 10, 7);
        Check.is("27: at the market's price nothing", 70, x.hidden(0, 1));
        x.market(0, 0, 10000);
        x.goods(0, 1, 0, 0, 100, 0);
        Check.is("27: far below 0", 70 - 1000000, x.hidden(0, 1));
        for (int k = 0; k < 300; k++) {
            x.goods(0, 1, 0, 0, 100, 0);
        }
        Check.is("27: all together", 70 - 301000000L, x.hidden(0, 1));
        x.rate(0, 1, 1000);
        x.market(0, 1, 0);
        for (int k = 0; k < 90; k++) {
            x.goods(1, 0, 1, 1, 100, 1000);
        }
        Check.is("27: the other way", 90000000, x.hidden(1, 0));
        Check.is("27: of itself", 0, x.hidden(0, 0));
    }

    // Debts: "WORTH of all that they counted for, in the TOWN where they went to, .. as they were when they went"
    private static void hiddenAsTheyWent() {
        NoonWords x = House.row(2);
        x.rate(1, 1, 150);
        x.market(1, 2, 4);
        x.market(0, 2, 1000);
        x.market(1, 1, 1000);
        x.goods(0, 1, 1, 2, 3, 3);
        Check.is("27: 9 at 1.5, 3 for 4", 13 - 12, x.hidden(0, 1));
        x.goods(0, 1, 1, 2, 1, 1);
        Check.is("27: 1 at 1.5 is 1", 1 + 1 - 4, x.hidden(0, 1));
        x.market(1, 2, 0);
        x.rate(1, 1, 1000);
        Check.is("27: as it was", -2, x.hidden(0, 1));
        x.goods(1, 0, 1, 3, 2, 5);
        Check.is("27: where its rate isn't heard", 10, x.hidden(1, 0));
        x.go(3);
        x.goods(1, 0, 1, 3, 2, 5);
        Check.is("27: where it is heard now", 10 + 100, x.hidden(1, 0));
    }

    // Debts: "of all GOODS": by COIN, RINGS, WORDS nothing is hidden
    private static void hiddenOfGoodsAlone() {
        NoonWords x = House.inn(3);
        x.put(0, 0, 50);
        x.put(1, 0, 50);
        x.tell(0, 1, 0, 9, 7);
        x.pay(0, 7);
        House.owe(x, 1, 2, 0, 9);
        House.owe(x, 2, 0, 0, 9);
        x.settle(0, 1, 0, 1);
        x.cross(0, 3);
        Check.is("27: by coin and ring nothing", 0, x.hidden(0, 1));
        Check.is("27: by a word nothing", 0, x.hidden(1, 0));
        Check.is("27: by goods alone", 9, x.hidden(2, 1));
    }

    private static void hiddenArguments() {
        NoonWords x = House.inn(2);
        Check.none("27: a below 0", () -> x.hidden(-1, 0));
        Check.none("27: a, the next one", () -> x.hidden(2, 0));
        Check.none("27: b below 0", () -> x.hidden(0, -1));
        Check.none("27: b, the next one", () -> x.hidden(0, 2));
    }

    // 32: "NoSuchElementException: no such ENTRY; IllegalArgumentException: another what."
    private static void entryArguments() {
        NoonWords x = House.inn(2);
        Check.none("32: none at all", () -> x.entry(0, 0));
        House.fill(x, 0, 1, 400);
        Check.is("32: the first", 0, x.entry(0, 0));
        Check.is("32: the last", 2, x.entry(399, 6));
        Check.none("32: below 0", () -> x.entry(-1, 0));
        Check.none("32: the next one", () -> x.entry(400, 0));
        Check.none("32: far away", () -> x.entry(MAX, 0));
        Check.none("32: told first", () -> x.entry(400, 7));
        Check.argument("32: what -1", () -> x.entry(0, -1));
        Check.argument("32: what 7", () -> x.entry(0, 7));
    }

    private static void isEntry(NoonWords x, int k, int... entry) {
        for (int what = 0; what < 7; what++) {
            Check.is("32: entry " + k + ", " + what, entry[what], x.entry(k, what));
        }
    }

    // Words, Debts: the TOWN, the way and the SORT of each ENTRY
    private static void entriesTold() {
        NoonWords x = House.row(3);
        x.put(1, 2, 50);
        x.put(0, 2, 50);
        x.tell(0, 1, 2, 9, 7);
        x.go(3);
        x.pay(0, 7);
        isEntry(x, 0, 3, 1, 0, 1, 2, 9, 0);
        x.go(1);
        x.settle(0, 1, 2, 4);
        isEntry(x, 1, 4, 1, 0, 1, 2, -4, 1);
        x.go(1);
        x.goods(1, 2, 2, 3, 5, 6);
        isEntry(x, 2, 5, 2, 1, 2, 2, -30, 2);
        x.goods(1, 0, 2, 3, 1, 0);
        isEntry(x, 3, 5, 0, 1, 0, 2, 0, 2);
        Check.is("21: the word less the coin", 5, x.owes(0, 1, 2));
        Check.is("21: the goods", 30, x.owes(2, 1, 2));
    }
}
