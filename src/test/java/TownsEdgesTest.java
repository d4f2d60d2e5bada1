/** Promises 1 to 10, sentence by sentence: what is too small, too large, empty, full, refused. */
public final class TownsEdgesTest {
    private static final int MIN = Integer.MIN_VALUE;
    private static final int MAX = Integer.MAX_VALUE;

    public static void main(String[] args) {
        noTowns();
        nowIs0();
        traysAreMissing();
        anEmptyTape();
        objectsApart();
        goSoMany();
        goAbove999();
        townsAtMost8();
        roadSoLong();
        roadBothAreOne();
        roadWhatItWas();
        roadNoSuchTown();
        lagToItself();
        lagNone();
        lagFewestDays();
        lagByAnyTown();
        lagAsRoadsAreNow();
        lagNoSuchTown();
        rateCoinAndRate();
        ratesAtMost150();
        rateWithoutAny();
        rateOfCoin0();
        rateHeardOnADay();
        rateLatestDay();
        rateLeastLag();
        rateToldLast();
        rateAtArguments();
        worthRoundedDown();
        worthOfAFullDrawer();
        worthAsItIsHeardNow();
        worthOfEachTown();
        brokerKin();
        brokersAtMost12();
        drawer0AtFirst();
        drawersApart();
        putBelow0();
        putAboveAll();
        putHasFallen();
        putArguments();
        drawerArguments();
        Check.end();
    }

    // 1: "No TOWNS"
    private static void noTowns() {
        NoonWords x = new NoonWords();
        Check.is("1: no towns", 0, x.count(1));
        Check.none("1: no town for a lag", () -> x.lag(0, 0));
        Check.none("1: no town for a road", () -> x.road(0, 1, 1));
        Check.none("1: no town for a rate", () -> x.rate(0, 1, 1));
        Check.none("1: no town for a broker", () -> x.broker(0, 0));
        Check.none("1: no town for lines", () -> x.lines(0, 0, 0));
        Check.none("1: no town for a market", () -> x.market(0, 0, 0));
        Check.is("1: the first is 0", 0, x.town());
    }

    // 1: "NOW 0"
    private static void nowIs0() {
        Check.is("1: now is 0", 0, new NoonWords().count(0));
        Check.is("1: a day later", 1, new NoonWords().go(1));
    }

    // 1: "TRAYS are MISSING"
    private static void traysAreMissing() {
        NoonWords x = House.inn(1);
        for (int k = 0; k < 4; k++) {
            int tray = k;
            Check.state("1: read from " + tray, () -> x.read(tray, 0));
            Check.state("1: write to " + tray, () -> x.write(tray, 0, 0));
            Check.is("1: book against " + tray, -2, x.book(0, tray));
        }
    }

    // 1: "an empty tape"
    private static void anEmptyTape() {
        NoonWords x = new NoonWords();
        Check.is("1: no bytes", 0, x.count(9));
        Check.argument("1: not a byte", () -> x.text(1, 1, 0));
        Check.is("1: the first twenty", 20, x.feed(0, 0, 0, 0, 0));
    }

    // 1: a new object has nothing of one that was made before
    private static void objectsApart() {
        NoonWords x = House.inn(2);
        x.go(50);
        x.rate(0, 1, 7);
        x.put(0, 0, 9);
        Check.text(x, "fee 5;", 255, 0);
        x.tray(0, 0, 5);
        NoonWords y = new NoonWords();
        for (int what = 0; what < 10; what++) {
            Check.is("1: count " + what + " of a new one", 0, y.count(what));
        }
        y.town();
        y.broker(0, 0);
        Check.is("1: no rate", 100, y.rateAt(0, 1, 999));
        Check.is("1: an empty drawer", 0, y.drawer(0, 0));
        Check.is("1: no custom", 0, y.said(0, 0, 0, 0, 0));
        Check.state("1: no tray", () -> y.read(0, 0));
        Check.is("1: the other one stays", 50, x.count(0));
    }

    // 2: "NOW is so many DAYS later (1 to 100)"; "IllegalArgumentException: not so many"
    private static void goSoMany() {
        NoonWords x = House.inn(1);
        Check.is("2: the least", 1, x.go(1));
        Check.is("2: the most", 101, x.go(100));
        Check.calm("2", x, () -> {
            Check.argument("2: 0", () -> x.go(0));
            Check.argument("2: below 0", () -> x.go(-1));
            Check.argument("2: far below 0", () -> x.go(MIN));
            Check.argument("2: 101", () -> x.go(101));
            Check.argument("2: far above", () -> x.go(MAX));
        });
    }

    // 2: "IllegalStateException: it would be above 999"
    private static void goAbove999() {
        NoonWords x = House.inn(1);
        House.days(x, 900);
        Check.calm("2", x, () -> Check.state("2: 1000", () -> x.go(100)));
        Check.is("2: 999", 999, x.go(99));
        Check.calm("2", x, () -> {
            Check.state("2: 1000", () -> x.go(1));
            Check.state("2: 1099", () -> x.go(100));
            Check.argument("2: not so many is told first", () -> x.go(101));
            Check.argument("2: not so many is told first", () -> x.go(0));
        });
    }

    // 3: "its number; NONE if there are 8"
    private static void townsAtMost8() {
        NoonWords x = new NoonWords();
        for (int k = 0; k < 8; k++) {
            Check.is("3: its number", k, x.town());
            Check.is("3: one more", k + 1, x.count(1));
        }
        Check.is("3: none", -1, x.town());
        Check.is("3: none again", -1, x.town());
        Check.is("3: 8", 8, x.count(1));
        Check.is("3: the last one is one", 0, x.lag(7, 7));
        Check.none("3: there is no ninth", () -> x.lag(8, 8));
    }

    // 4: "1 to 9 DAYS long"; "IllegalArgumentException: .. it can't be so long"
    private static void roadSoLong() {
        NoonWords x = House.towns(3);
        x.road(0, 1, 1);
        Check.is("4: the shortest", 1, x.lag(0, 1));
        x.road(1, 2, 9);
        Check.is("4: the longest", 9, x.lag(1, 2));
        Check.calm("4", x, () -> {
            Check.argument("4: 0", () -> x.road(0, 1, 0));
            Check.argument("4: below 0", () -> x.road(0, 1, -1));
            Check.argument("4: 10", () -> x.road(0, 1, 10));
            Check.argument("4: far above", () -> x.road(0, 1, MAX));
            Check.argument("4: far below", () -> x.road(0, 1, MIN));
        });
    }

    // 4: "IllegalArgumentException: both are one"
    private static void roadBothAreOne() {
        NoonWords x = House.towns(8);
        Check.calm("4", x, () -> {
            Check.argument("4: the first with itself", () -> x.road(0, 0, 1));
            Check.argument("4: the last with itself", () -> x.road(7, 7, 9));
        });
        Check.is("4: to itself yet 0", 0, x.lag(7, 7));
    }

    // 4: "what it was, NONE if there was none"; "both ways alike"
    private static void roadWhatItWas() {
        NoonWords x = House.towns(8);
        Check.is("4: none", -1, x.road(7, 0, 9));
        Check.is("4: none of another one", -1, x.road(7, 6, 2));
        Check.is("4: it was 9, the other way", 9, x.road(0, 7, 1));
        Check.is("4: it was 1", 1, x.road(7, 0, 1));
        Check.is("4: the same again", 1, x.road(7, 0, 4));
        x.road(0, 6, 9);
        Check.is("4: not the lag, but the road", 9, x.road(6, 0, 9));
    }

    // 4: "NoSuchElementException: no such TOWN (as everywhere)"
    private static void roadNoSuchTown() {
        NoonWords x = House.towns(3);
        Check.calm("4", x, () -> {
            Check.none("4: below 0", () -> x.road(-1, 0, 1));
            Check.none("4: the next one", () -> x.road(3, 0, 1));
            Check.none("4: to below 0", () -> x.road(0, -1, 1));
            Check.none("4: to the next one", () -> x.road(0, 3, 1));
            Check.none("4: far away", () -> x.road(MIN, MAX, 1));
            Check.none("4: told first, both are one", () -> x.road(3, 3, 1));
            Check.none("4: told first, so long", () -> x.road(0, 3, 0));
        });
    }

    // Terms: LAG "(0 to itself ..)"
    private static void lagToItself() {
        NoonWords x = House.towns(8);
        for (int k = 0; k < 8; k++) {
            Check.is("5: to itself without roads", 0, x.lag(k, k));
        }
        for (int k = 1; k < 8; k++) {
            x.road(0, k, 1);
        }
        for (int k = 0; k < 8; k++) {
            Check.is("5: to itself with roads", 0, x.lag(k, k));
        }
    }

    // 5: "LAG; NONE"; Terms: "none, if no ROADS lead there"
    private static void lagNone() {
        NoonWords x = House.towns(8);
        x.road(0, 1, 1);
        x.road(2, 3, 1);
        Check.is("5: no roads at all", -1, x.lag(6, 7));
        Check.is("5: no roads there", -1, x.lag(0, 7));
        Check.is("5: roads, but not there", -1, x.lag(1, 2));
        x.road(1, 2, 1);
        Check.is("5: now they lead there", 3, x.lag(0, 3));
        Check.is("5: back, too", 3, x.lag(3, 0));
        Check.is("5: a town that comes", -1, x.lag(0, 7));
    }

    // Terms: "the fewest DAYS over ROADS"
    private static void lagFewestDays() {
        NoonWords x = House.towns(8);
        for (int k = 0; k < 7; k++) {
            x.road(k, k + 1, 9);
        }
        for (int a = 0; a < 8; a++) {
            for (int b = 0; b < 8; b++) {
                Check.is("5: a row of nines", 9 * Math.abs(a - b), x.lag(a, b));
            }
        }
        x.road(0, 2, 9);
        Check.is("5: over fewer roads", 9, x.lag(0, 2));
        x.road(0, 7, 8);
        Check.is("5: round the other way", 17, x.lag(0, 6));
        NoonWords y = House.towns(3);
        y.road(0, 1, 4);
        y.road(1, 2, 4);
        y.road(0, 2, 8);
        Check.is("5: as long this way as that", 8, y.lag(0, 2));
        y.road(0, 2, 9);
        Check.is("5: a direct road that is longer", 8, y.lag(0, 2));
        y.road(1, 2, 5);
        Check.is("5: as long again", 9, y.lag(2, 0));
    }

    // Terms: "over ROADS": any number of them, by towns of any number
    private static void lagByAnyTown() {
        for (int hub = 0; hub < 8; hub++) {
            NoonWords x = House.towns(8);
            for (int k = 0; k < 8; k++) {
                if (k != hub) {
                    x.road(k, hub, k + 1);
                }
            }
            for (int a = 0; a < 8; a++) {
                int b = (a + 3) % 8;
                if (a != hub && b != hub) {
                    Check.is("5: by town " + hub, a + b + 2, x.lag(a, b));
                }
            }
        }
        int[] order = {3, 7, 0, 5, 1, 6, 2, 4};
        NoonWords y = House.towns(8);
        for (int k = 0; k < 7; k++) {
            y.road(order[k], order[k + 1], 9);
        }
        for (int k = 0; k < 7; k++) {
            Check.is("5: by all towns", 9 * (7 - k), y.lag(order[k], order[7]));
        }
    }

    // Terms: "over ROADS as they are now"
    private static void lagAsRoadsAreNow() {
        NoonWords x = House.row(4);
        Check.is("5: as they were", 9, x.lag(0, 3));
        x.road(1, 2, 9);
        Check.is("5: one became longer", 15, x.lag(0, 3));
        x.road(1, 2, 1);
        Check.is("5: one became shorter", 7, x.lag(3, 0));
        x.road(3, 0, 2);
        Check.is("5: one more", 2, x.lag(0, 3));
        Check.is("5: one more", 3, x.lag(0, 1));
        Check.is("5: one more", 4, x.lag(0, 2));
    }

    private static void lagNoSuchTown() {
        NoonWords x = House.towns(2);
        Check.none("5: from below 0", () -> x.lag(-1, 0));
        Check.none("5: from the next one", () -> x.lag(2, 0));
        Check.none("5: to below 0", () -> x.lag(0, -1));
        Check.none("5: to the next one", () -> x.lag(0, 2));
        Check.none("5: far away", () -> x.lag(MIN, MAX));
    }

    // Terms: "of a COIN from 1 on", "(1 to 1000)"; 6: "IllegalArgumentException: the COIN, or the RATE"
    private static void rateCoinAndRate() {
        NoonWords x = House.towns(2);
        Check.is("6: coin 1, the least", 0, x.rate(0, 1, 1));
        Check.is("6: coin 3, the most", 1, x.rate(0, 3, 1000));
        Check.is("6: the least", 1, x.rateAt(0, 1, 0));
        Check.is("6: the most", 1000, x.rateAt(0, 3, 0));
        Check.calm("6", x, () -> {
            Check.argument("6: coin 0", () -> x.rate(0, 0, 100));
            Check.argument("6: coin 4", () -> x.rate(0, 4, 100));
            Check.argument("6: coin -1", () -> x.rate(0, -1, 100));
            Check.argument("6: a rate of 0", () -> x.rate(0, 1, 0));
            Check.argument("6: a rate below 0", () -> x.rate(0, 1, -1));
            Check.argument("6: a rate of 1001", () -> x.rate(0, 1, 1001));
            Check.argument("6: a rate far above", () -> x.rate(0, 1, MAX));
            Check.none("6: no such town", () -> x.rate(2, 1, 100));
            Check.none("6: no such town", () -> x.rate(-1, 1, 100));
            Check.none("6: told first", () -> x.rate(2, 0, 0));
        });
    }

    // 6: "how many were told ahead of it; NONE if there are 150"
    private static void ratesAtMost150() {
        NoonWords x = House.towns(2);
        for (int k = 0; k < 149; k++) {
            x.rate(0, 1, 5);
        }
        Check.is("6: the last", 149, x.rate(1, 2, 6));
        Check.is("6: none", -1, x.rate(1, 2, 7));
        Check.is("6: none of another coin", -1, x.rate(0, 3, 8));
        Check.is("6: 150", 150, x.count(3));
        Check.is("6: the last one counts", 6, x.rateAt(1, 2, 0));
        Check.is("6: nothing else was told", 100, x.rateAt(0, 3, 0));
    }

    // Terms: "100 without any"
    private static void rateWithoutAny() {
        NoonWords x = House.towns(2);
        x.road(0, 1, 2);
        Check.is("7: without any", 100, x.rateAt(0, 1, 999));
        x.go(5);
        x.rate(0, 1, 7);
        Check.is("7: none heard by then", 100, x.rateAt(0, 1, 4));
        Check.is("7: none heard there by then", 100, x.rateAt(1, 1, 6));
        Check.is("7: none of that coin", 100, x.rateAt(0, 2, 999));
    }

    // Terms: "that of COIN 0 is 100"; 7: "(0 too is one)"
    private static void rateOfCoin0() {
        NoonWords x = House.towns(1);
        x.rate(0, 1, 7);
        Check.is("7: coin 0", 100, x.rateAt(0, 0, 0));
        Check.is("7: coin 0", 100, x.rateAt(0, 0, 999));
    }

    // Terms: "if there is a LAG .. and the DAY on which it was, and LAG, together are not above that DAY"
    private static void rateHeardOnADay() {
        NoonWords x = House.towns(3);
        x.road(0, 1, 4);
        x.go(10);
        x.rate(0, 1, 7);
        Check.is("7: at home, a day ahead", 100, x.rateAt(0, 1, 9));
        Check.is("7: at home, that day", 7, x.rateAt(0, 1, 10));
        Check.is("7: far away, a day ahead", 100, x.rateAt(1, 1, 13));
        Check.is("7: far away, that day", 7, x.rateAt(1, 1, 14));
        Check.is("7: without a lag never", 100, x.rateAt(2, 1, 999));
        x.road(1, 2, 9);
        Check.is("7: with one, a day ahead", 100, x.rateAt(2, 1, 22));
        Check.is("7: with one, that day", 7, x.rateAt(2, 1, 23));
        House.days(x, 989);
        x.rate(0, 1, 8);
        Check.is("7: the last day", 8, x.rateAt(0, 1, 999));
        Check.is("7: never heard far away", 7, x.rateAt(1, 1, 999));
    }

    // Terms: "of those HEARD there then the one of the latest DAY"
    private static void rateLatestDay() {
        NoonWords x = House.towns(3);
        x.road(0, 1, 1);
        x.road(0, 2, 9);
        x.rate(0, 1, 11);
        x.go(1);
        x.rate(2, 1, 22);
        Check.is("7: the later one is not heard yet", 11, x.rateAt(0, 1, 9));
        Check.is("7: the latest day, by the longest lag", 22, x.rateAt(0, 1, 10));
        Check.is("7: by no lag", 22, x.rateAt(2, 1, 10));
        x.go(1);
        x.rate(0, 2, 33);
        Check.is("7: another coin is no later one", 22, x.rateAt(0, 1, 10));
        x.rate(1, 1, 44);
        Check.is("7: the latest day", 44, x.rateAt(0, 1, 10));
        Check.is("7: the latest day that was heard then", 11, x.rateAt(0, 1, 2));
    }

    // Terms: "of one DAY that with the least LAG"
    private static void rateLeastLag() {
        for (int turn = 0; turn < 2; turn++) {
            NoonWords x = House.towns(3);
            x.road(0, 1, 1);
            x.road(0, 2, 2);
            x.rate(turn == 0 ? 1 : 2, 1, turn == 0 ? 11 : 22);
            x.rate(turn == 0 ? 2 : 1, 1, turn == 0 ? 22 : 11);
            Check.is("7: none yet", 100, x.rateAt(0, 1, 0));
            Check.is("7: the near one alone", 11, x.rateAt(0, 1, 1));
            Check.is("7: both, the least lag", 11, x.rateAt(0, 1, 2));
            Check.is("7: its own", 22, x.rateAt(2, 1, 999));
            x.rate(0, 1, 33);
            Check.is("7: no lag at all", 33, x.rateAt(0, 1, 999));
        }
    }

    // Terms: "of like ones the one told last"
    private static void rateToldLast() {
        NoonWords x = House.towns(3);
        x.road(0, 1, 2);
        x.road(0, 2, 2);
        x.rate(1, 1, 11);
        x.rate(2, 1, 22);
        Check.is("7: of two towns as far", 22, x.rateAt(0, 1, 2));
        x.rate(1, 1, 12);
        Check.is("7: of two towns as far", 12, x.rateAt(0, 1, 2));
        x.rate(1, 1, 13);
        Check.is("7: of one town", 13, x.rateAt(1, 1, 0));
    }

    // 7: "IllegalArgumentException: the COIN .., or the DAY"
    private static void rateAtArguments() {
        NoonWords x = House.towns(1);
        Check.is("7: the first day", 100, x.rateAt(0, 3, 0));
        Check.is("7: the last day", 100, x.rateAt(0, 3, 999));
        Check.argument("7: coin -1", () -> x.rateAt(0, -1, 0));
        Check.argument("7: coin 4", () -> x.rateAt(0, 4, 0));
        Check.argument("7: day -1", () -> x.rateAt(0, 1, -1));
        Check.argument("7: day 1000", () -> x.rateAt(0, 1, 1000));
        Check.argument("7: day 1000 of coin 0", () -> x.rateAt(0, 0, 1000));
        Check.none("7: no such town", () -> x.rateAt(1, 0, 0));
        Check.none("7: told first", () -> x.rateAt(-1, 4, 1000));
    }

    // Terms: "n times this RATE, by 100, rounded down (below 0 too)"
    private static void worthRoundedDown() {
        NoonWords x = House.inn(2);
        x.rate(0, 1, 99);
        x.rate(0, 2, 1);
        x.rate(0, 3, 199);
        x.put(0, 1, 1);
        Check.is("39: 0.99 is 0", 0, x.wealth(0));
        x.put(0, 2, 99);
        Check.is("39: and 0.99 is 0", 0, x.wealth(0));
        x.put(0, 2, 1);
        Check.is("39: just 1", 1, x.wealth(0));
        x.put(0, 3, 1);
        Check.is("39: and 1.99 is 1", 2, x.wealth(0));
        NoonWords y = House.inn(2);
        y.rate(0, 2, 1);
        House.owe(y, 0, 1, 2, 1);
        Check.is("39: -0.01 is -1", -1, y.wealth(0));
        Check.is("39: 0.01 is 0", 0, y.wealth(1));
        House.owe(y, 0, 1, 2, 99);
        Check.is("39: just -1", -1, y.wealth(0));
        House.owe(y, 0, 1, 2, 1);
        Check.is("39: -1.01 is -2", -2, y.wealth(0));
    }

    // Terms: rates up to 1000 and drawers up to 10,000,000
    private static void worthOfAFullDrawer() {
        NoonWords x = House.inn(1);
        for (int coin = 0; coin < 4; coin++) {
            x.put(0, coin, 10000000);
        }
        Check.is("39: at 100 each", 40000000, x.wealth(0));
        for (int coin = 1; coin < 4; coin++) {
            x.rate(0, coin, 1000);
        }
        Check.is("39: all there can be", 310000000, x.wealth(0));
    }

    // Terms: "WORTH .. in a TOWN on a DAY", which calls take NOW: it changes by days, roads and rates
    private static void worthAsItIsHeardNow() {
        NoonWords x = House.towns(2);
        x.broker(0, 0);
        x.put(0, 1, 100);
        Check.is("39: without any", 100, x.wealth(0));
        x.rate(1, 1, 200);
        Check.is("39: without a road", 100, x.wealth(0));
        x.road(0, 1, 5);
        Check.is("39: not heard yet", 100, x.wealth(0));
        x.go(4);
        Check.is("39: not heard yet", 100, x.wealth(0));
        x.go(1);
        Check.is("39: heard by a day more", 200, x.wealth(0));
        x.road(0, 1, 6);
        Check.is("39: not by a longer road", 100, x.wealth(0));
        x.road(0, 1, 1);
        Check.is("39: by a shorter road", 200, x.wealth(0));
        x.rate(0, 1, 300);
        Check.is("39: by a later rate", 300, x.wealth(0));
        x.rate(0, 1, 400);
        Check.is("39: by one more", 400, x.wealth(0));
    }

    // Terms: "WORTH of n of a COIN in a TOWN": each TOWN and COIN of its own
    private static void worthOfEachTown() {
        NoonWords x = House.towns(8);
        for (int k = 0; k < 8; k++) {
            x.broker(k, 0);
            for (int coin = 0; coin < 4; coin++) {
                x.put(k, coin, coin == 0 ? 1000 : 100);
                if (coin > 0) {
                    x.rate(k, coin, 10 * k + coin);
                }
            }
        }
        for (int k = 0; k < 8; k++) {
            Check.is("39: in town " + k, 1000 + 30 * k + 6, x.wealth(k));
        }
        for (int k = 7; k >= 0; k--) {
            Check.is("39: in town " + k + " again", 1000 + 30 * k + 6, x.wealth(k));
        }
    }

    // Terms: "a KIN (0 to 5)"; 8: "IllegalArgumentException: the KIN"
    private static void brokerKin() {
        NoonWords x = House.towns(2);
        Check.is("8: the least", 0, x.broker(0, 0));
        Check.is("8: the greatest", 1, x.broker(1, 5));
        Check.calm("8", x, () -> {
            Check.argument("8: -1", () -> x.broker(0, -1));
            Check.argument("8: 6", () -> x.broker(0, 6));
            Check.argument("8: far away", () -> x.broker(0, MIN));
            Check.none("8: no such town", () -> x.broker(2, 0));
            Check.none("8: no such town", () -> x.broker(-1, 0));
            Check.none("8: told first", () -> x.broker(2, 6));
        });
    }

    // 8: "its number; NONE if there are 12"
    private static void brokersAtMost12() {
        NoonWords x = House.towns(8);
        for (int k = 0; k < 12; k++) {
            Check.is("8: its number", k, x.broker(k % 8, k % 6));
        }
        Check.is("8: none", -1, x.broker(0, 0));
        Check.is("8: none again", -1, x.broker(7, 5));
        Check.is("8: 12", 12, x.count(2));
        Check.is("8: the last one is one", 1, x.put(11, 3, 1));
        Check.none("8: there is no thirteenth", () -> x.put(12, 3, 1));
    }

    // Terms: "(0 at first ..)"
    private static void drawer0AtFirst() {
        NoonWords x = House.inn(12);
        for (int k = 0; k < 48; k++) {
            Check.is("10: 0 at first", 0, x.drawer(k / 4, k % 4));
        }
    }

    // 10: "What a DRAWER has of a COIN": each of its own
    private static void drawersApart() {
        NoonWords x = House.inn(12);
        for (int k = 0; k < 48; k++) {
            Check.is("9: so many come", k + 1, x.put(k / 4, k % 4, k + 1));
        }
        for (int k = 0; k < 48; k++) {
            Check.is("10: so many are there", k + 1, x.drawer(k / 4, k % 4));
        }
    }

    // 9: "IllegalStateException: .. there would be below 0"
    private static void putBelow0() {
        NoonWords x = House.inn(1);
        Check.calm("9", x, () -> Check.state("9: -1 of none", () -> x.put(0, 0, -1)));
        x.put(0, 0, 5);
        Check.calm("9", x, () -> {
            Check.state("9: one too many", () -> x.put(0, 0, -6));
            Check.state("9: far too many", () -> x.put(0, 0, MIN));
        });
        Check.is("9: all of it", 0, x.put(0, 0, -5));
        Check.is("9: nothing of none", 0, x.put(0, 0, 0));
    }

    // 9: "IllegalStateException: .. above 10,000,000"
    private static void putAboveAll() {
        NoonWords x = House.inn(1);
        Check.calm("9", x, () -> {
            Check.state("9: one too many", () -> x.put(0, 3, 10000001));
            Check.state("9: far too many", () -> x.put(0, 3, MAX));
        });
        Check.is("9: full", 10000000, x.put(0, 3, 10000000));
        Check.calm("9", x, () -> {
            Check.state("9: one more", () -> x.put(0, 3, 1));
            Check.state("9: far too many", () -> x.put(0, 3, MAX));
        });
        Check.is("9: nothing more", 10000000, x.put(0, 3, 0));
        Check.is("9: one less", 9999999, x.put(0, 3, -1));
        Check.is("9: one more", 10000000, x.put(0, 3, 1));
    }

    // 9: "IllegalStateException: it has FALLEN"
    private static void putHasFallen() {
        NoonWords x = House.inn(2);
        x.put(0, 0, 5);
        x.falls(0);
        Check.calm("9", x, () -> {
            Check.state("9: some come", () -> x.put(0, 0, 1));
            Check.state("9: none come", () -> x.put(0, 0, 0));
            Check.state("9: some leave", () -> x.put(0, 0, -1));
            Check.argument("9: the coin is told first", () -> x.put(0, 4, 1));
        });
        Check.is("9: not the other one", 1, x.put(1, 0, 1));
    }

    // 9: "NoSuchElementException: no such BROKER (as everywhere); IllegalArgumentException: the COIN"
    private static void putArguments() {
        NoonWords x = House.inn(2);
        Check.is("9: the least coin", 1, x.put(1, 0, 1));
        Check.is("9: the greatest coin", 1, x.put(1, 3, 1));
        Check.calm("9", x, () -> {
            Check.none("9: below 0", () -> x.put(-1, 0, 1));
            Check.none("9: the next one", () -> x.put(2, 0, 1));
            Check.none("9: told first", () -> x.put(2, 4, -1));
            Check.argument("9: coin -1", () -> x.put(0, -1, 1));
            Check.argument("9: coin 4", () -> x.put(0, 4, 1));
            Check.argument("9: the coin is told ahead of the state", () -> x.put(0, 4, -1));
        });
    }

    // 10: "IllegalArgumentException: the COIN"
    private static void drawerArguments() {
        NoonWords x = House.inn(2);
        Check.none("10: below 0", () -> x.drawer(-1, 0));
        Check.none("10: the next one", () -> x.drawer(2, 0));
        Check.none("10: told first", () -> x.drawer(2, 4));
        Check.argument("10: coin -1", () -> x.drawer(1, -1));
        Check.argument("10: coin 4", () -> x.drawer(1, 4));
    }
}
