/** Promises 21 to 32: owes, heard, claim, settle, market, goods, hidden, ring, cross, fewest, step, entry. */
public final class DebtsTest {
    public static void main(String[] args) {
        owes();
        heard();
        claim();
        settle();
        goods();
        hidden();
        ring();
        ringTies();
        cross();
        fewest();
        groups();
        entry();
        Check.end();
    }

    private static NoonWords house(int brokers) {
        NoonWords x = new NoonWords();
        x.town();
        x.town();
        x.town();
        x.road(0, 1, 3);
        for (int k = 0; k < brokers; k++) {
            x.broker(k == 1 ? 1 : k == 2 ? 2 : 0, 0);
        }
        return x;
    }

    /** a owes b so many of a coin more. */
    private static void owe(NoonWords x, int a, int b, int coin, int many) {
        x.goods(b, a, coin, 0, 1, many);
    }

    private static void owes() {
        NoonWords x = house(3);
        owe(x, 0, 1, 2, 30);
        owe(x, 1, 0, 2, 12);
        owe(x, 0, 1, 1, 7);
        Check.is("21: net", 18, x.owes(0, 1, 2));
        Check.is("21: the other way", -18, x.owes(1, 0, 2));
        Check.is("21: another coin", 7, x.owes(0, 1, 1));
        Check.is("21: another broker", 0, x.owes(0, 2, 2));
        Check.is("21: itself", 0, x.owes(0, 0, 2));
        Check.none("21: no such broker", () -> x.owes(3, 0, 4));
        Check.none("21: no such broker", () -> x.owes(0, 3, 0));
        Check.argument("21: the coin", () -> x.owes(0, 1, 4));
        Check.argument("21: the coin", () -> x.owes(0, 1, -1));
    }

    private static void heard() {
        NoonWords x = house(3);
        x.go(10);
        owe(x, 0, 1, 0, 30);
        x.go(1);
        owe(x, 1, 0, 0, 12);
        // The first entry is in town 0, where the goods went to, the second in town 1.
        Check.is("22: in 0 on 9", 0, x.heard(0, 0, 1, 0, 9));
        Check.is("22: in 0 on 10", 30, x.heard(0, 0, 1, 0, 10));
        Check.is("22: in 0 on 13", 30, x.heard(0, 0, 1, 0, 13));
        Check.is("22: in 0 on 14", 18, x.heard(0, 0, 1, 0, 14));
        Check.is("22: in 1 on 11", -12, x.heard(1, 0, 1, 0, 11));
        Check.is("22: in 1 on 13", -18, x.heard(1, 1, 0, 0, 13));
        owe(x, 2, 0, 0, 5);
        Check.is("22: without roads", 5, x.heard(2, 2, 0, 0, 11));
        Check.is("22: never heard", 0, x.heard(0, 2, 0, 0, 999));
        Check.is("22: both one", 0, x.heard(0, 0, 0, 0, 999));
        x.road(0, 1, 1);
        Check.is("22: by roads as they are now", 18, x.heard(0, 0, 1, 0, 12));
        Check.none("22: no such broker", () -> x.heard(3, 0, 1, 4, 0));
        Check.none("22: no such broker", () -> x.heard(0, 0, 3, 0, 0));
        Check.argument("22: the coin", () -> x.heard(2, 0, 1, 4, 0));
        Check.argument("22: the day", () -> x.heard(2, 0, 1, 0, 1000));
        Check.argument("22: the day", () -> x.heard(0, 0, 1, 0, -1));
        Check.state("22: none of the two", () -> x.heard(2, 0, 1, 0, 0));
    }

    private static void claim() {
        NoonWords x = house(2);
        x.rate(0, 1, 250);
        owe(x, 0, 1, 0, 10);
        owe(x, 0, 1, 1, 3);
        owe(x, 1, 0, 2, 4);
        x.rate(0, 2, 30);
        // 10, 3 times 2.5 is 7, and 4 times 0.3 below 0 is -2.
        Check.is("23: all coins, each rounded down", 15, x.claim(0, 1));
        Check.is("23: below 0", 0, x.claim(1, 0));
        Check.is("23: itself", 0, x.claim(0, 0));
        owe(x, 1, 0, 0, 40);
        Check.is("23: below 0", 0, x.claim(0, 1));
        Check.is("23: by rates in its own town", 31, x.claim(1, 0));
        x.go(3);
        Check.is("23: as they are heard there now", 23, x.claim(1, 0));
        Check.none("23: no such broker", () -> x.claim(0, 2));
        Check.none("23: no such broker", () -> x.claim(-1, 0));
    }

    private static void settle() {
        NoonWords x = house(4);
        owe(x, 0, 1, 1, 50);
        x.put(0, 1, 45);
        x.go(2);
        Check.is("24: net then", 30, x.settle(0, 1, 1, 20));
        Check.is("24: it left", 25, x.drawer(0, 1));
        Check.is("24: it came", 20, x.drawer(1, 1));
        int[] entry = {2, 1, 0, 1, 1, -20, 1};
        for (int what = 0; what < 7; what++) {
            Check.is("24: the entry, " + what, entry[what], x.entry(1, what));
        }
        Check.none("24: no such broker", () -> x.settle(0, 4, 9, 0));
        Check.argument("24: both are one", () -> x.settle(0, 0, 1, 1));
        Check.argument("24: the coin", () -> x.settle(0, 1, 4, 1));
        Check.argument("24: many", () -> x.settle(0, 1, 1, 0));
        Check.argument("24: many", () -> x.settle(0, 1, 1, Integer.MIN_VALUE));
        Check.state("24: the drawer", () -> x.settle(0, 1, 1, 26));
        x.put(0, 1, 10);
        Check.state("24: the net", () -> x.settle(0, 1, 1, 31));
        Check.state("24: the other way", () -> x.settle(1, 0, 1, 1));
        Check.is("24: all of it", 0, x.settle(0, 1, 1, 30));
        owe(x, 0, 1, 1, 5);
        x.put(1, 1, 10000000 - 52);
        x.settle(0, 1, 1, 5);
        Check.is("24: above all is gone", 10000000, x.drawer(1, 1));
        owe(x, 0, 2, 1, 5);
        owe(x, 3, 0, 1, 5);
        x.put(0, 1, 5);
        x.put(3, 1, 5);
        x.falls(2);
        Check.state("24: one has fallen", () -> x.settle(0, 2, 1, 1));
        x.falls(3);
        Check.state("24: the other has fallen", () -> x.settle(3, 0, 1, 1));
        NoonWords y = house(2);
        y.put(0, 0, 5);
        owe(y, 0, 1, 0, 5);
        for (int k = 1; k < 399; k++) {
            owe(y, 0, 1, 0, 0);
        }
        y.settle(0, 1, 0, 1);
        Check.state("24: 400 entries", () -> y.settle(0, 1, 0, 1));
        Check.is("24: nothing changed", 4, y.drawer(0, 0));
    }

    private static void goods() {
        NoonWords x = house(3);
        x.go(1);
        Check.is("26: net then", -600, x.goods(0, 1, 3, 3, 20, 30));
        int[] entry = {1, 1, 0, 1, 3, -600, 2};
        for (int what = 0; what < 7; what++) {
            Check.is("26: the entry, " + what, entry[what], x.entry(0, what));
        }
        Check.is("26: the most", -100600, x.goods(0, 1, 3, 0, 100, 1000));
        Check.is("26: for nothing", -100600, x.goods(0, 1, 3, 0, 1, 0));
        Check.is("26: an entry of 0", 3, x.count(6));
        Check.none("26: no such broker", () -> x.goods(0, 3, 9, 0, 1, 0));
        Check.argument("26: both are one", () -> x.goods(0, 0, 0, 0, 1, 0));
        Check.argument("26: the coin", () -> x.goods(0, 1, 4, 0, 1, 0));
        Check.argument("26: the kind", () -> x.goods(0, 1, 0, 4, 1, 0));
        Check.argument("26: the kind", () -> x.goods(0, 1, 0, -1, 1, 0));
        Check.argument("26: how many", () -> x.goods(0, 1, 0, 0, 0, 0));
        Check.argument("26: how many", () -> x.goods(0, 1, 0, 0, 101, 0));
        Check.argument("26: the price", () -> x.goods(0, 1, 0, 0, 1, -1));
        Check.argument("26: the price", () -> x.goods(0, 1, 0, 0, 1, 1001));
        x.falls(2);
        Check.state("26: one has fallen", () -> x.goods(0, 2, 0, 0, 1, 1));
        Check.state("26: one has fallen", () -> x.goods(2, 0, 0, 0, 1, 1));
        for (int k = 3; k < 400; k++) {
            x.goods(0, 1, 0, 0, 1, 1);
        }
        Check.state("26: 400 entries", () -> x.goods(0, 1, 0, 0, 1, 1));
        Check.argument("26: an argument comes first", () -> x.goods(0, 1, 0, 0, 0, 1));
    }

    private static void hidden() {
        NoonWords x = house(3);
        Check.is("25: 0 at first", 0, x.market(1, 2, 40));
        Check.is("25: what it was", 40, x.market(1, 2, 10000));
        Check.is("25: what it was", 10000, x.market(1, 2, 0));
        Check.is("25: what it was", 0, x.market(1, 2, 7));
        Check.is("25: another kind", 0, x.market(1, 3, 9));
        Check.is("25: the first kind", 0, x.market(1, 0, 3));
        Check.is("25: the first kind", 3, x.market(1, 0, 0));
        Check.is("25: another town", 0, x.market(0, 2, 9));
        Check.none("25: no such town", () -> x.market(3, 4, 0));
        Check.argument("25: the kind", () -> x.market(0, 4, 0));
        Check.argument("25: the kind", () -> x.market(0, -1, 0));
        Check.argument("25: the price", () -> x.market(0, 0, -1));
        Check.argument("25: the price", () -> x.market(0, 0, 10001));
        x.rate(1, 1, 130);
        x.goods(0, 1, 1, 2, 3, 11);
        // 33 of coin 1 are worth 42; three at 7 are 21.
        Check.is("27: worth less market", 21, x.hidden(0, 1));
        x.market(1, 2, 100);
        x.rate(1, 1, 500);
        Check.is("27: as it was when they went", 21, x.hidden(0, 1));
        x.goods(0, 1, 0, 2, 2, 1);
        Check.is("27: together, below 0 too", -177, x.hidden(0, 1));
        Check.is("27: the other way", 0, x.hidden(1, 0));
        x.goods(1, 0, 1, 2, 1, 10);
        Check.is("27: market where they went to", 1, x.hidden(1, 0));
        owe(x, 0, 1, 0, 50);
        x.put(0, 0, 50);
        x.settle(0, 1, 0, 40);
        Check.is("27: coin hides nothing", -177, x.hidden(0, 1));
        Check.none("27: no such broker", () -> x.hidden(3, 0));
        Check.none("27: no such broker", () -> x.hidden(0, -1));
    }

    private static void isRing(NoonWords x, int most, int cross, int... ring) {
        Check.is("28: cross", ring.length == 0 ? -1 : cross, x.ring(0, most, -1));
        Check.is("28: how many", ring.length == 0 ? -1 : ring.length, x.ring(0, most, -2));
        for (int k = 0; k < 5; k++) {
            Check.is("28: place " + k, k < ring.length ? ring[k] : -1, x.ring(0, most, k));
        }
    }

    private static void ring() {
        NoonWords x = house(5);
        isRing(x, 5, 0);
        owe(x, 0, 1, 0, 10);
        owe(x, 1, 0, 0, 10);
        isRing(x, 5, 0);
        owe(x, 3, 1, 0, 10);
        owe(x, 1, 4, 0, 9);
        owe(x, 4, 3, 0, 8);
        isRing(x, 3, 8, 1, 4, 3);
        owe(x, 4, 2, 0, 7);
        owe(x, 2, 3, 0, 7);
        isRing(x, 3, 8, 1, 4, 3);
        isRing(x, 4, 7, 1, 4, 2, 3);
        owe(x, 3, 0, 0, 6);
        owe(x, 0, 1, 0, 6);
        isRing(x, 5, 6, 0, 1, 4, 2, 3);
        Check.argument("28: the coin", () -> x.ring(4, 3, 0));
        Check.argument("28: not so many", () -> x.ring(0, 2, 0));
        Check.argument("28: not so many", () -> x.ring(0, 6, 0));
        Check.argument("28: what", () -> x.ring(0, 3, -3));
        Check.argument("28: what", () -> x.ring(0, 3, 5));
        Check.is("28: another coin", -1, x.ring(1, 5, -1));
    }

    private static void ringTies() {
        NoonWords x = house(7);
        owe(x, 2, 3, 0, 4);
        owe(x, 3, 4, 0, 4);
        owe(x, 4, 2, 0, 4);
        owe(x, 0, 1, 0, 3);
        owe(x, 1, 5, 0, 3);
        owe(x, 5, 6, 0, 3);
        owe(x, 6, 0, 0, 3);
        isRing(x, 5, 4, 2, 3, 4);
        NoonWords y = house(6);
        owe(y, 5, 4, 0, 4);
        owe(y, 4, 3, 0, 4);
        owe(y, 3, 5, 0, 4);
        isRing(y, 3, 4, 3, 5, 4);
        owe(y, 1, 3, 0, 4);
        owe(y, 5, 1, 0, 4);
        isRing(y, 3, 4, 1, 3, 5);
        owe(y, 3, 2, 0, 4);
        owe(y, 2, 1, 0, 4);
        isRing(y, 3, 4, 1, 3, 2);
        isRing(y, 4, 4, 1, 3, 2);
    }

    private static void cross() {
        NoonWords x = house(4);
        owe(x, 2, 1, 0, 10);
        owe(x, 1, 3, 0, 9);
        owe(x, 3, 2, 0, 8);
        x.go(4);
        Check.is("29: none", 0, x.cross(1, 5));
        Check.is("29: its cross", 8, x.cross(0, 3));
        int[][] entries = {{4, 0, 1, 3, 0, -8, 3}, {4, 2, 3, 2, 0, -8, 3}, {4, 1, 2, 1, 0, -8, 3}};
        for (int k = 0; k < 3; k++) {
            for (int what = 0; what < 7; what++) {
                Check.is("29: entry " + k + ", " + what, entries[k][what], x.entry(3 + k, what));
            }
        }
        Check.is("29: what is left", 2, x.owes(2, 1, 0));
        Check.is("29: nothing is left", 0, x.owes(3, 2, 0));
        Check.is("29: none any more", 0, x.cross(0, 5));
        Check.argument("29: the coin", () -> x.cross(-1, 3));
        Check.argument("29: not so many", () -> x.cross(0, 2));
        Check.argument("29: not so many", () -> x.cross(0, 6));
        owe(x, 3, 2, 0, 8);
        for (int k = 7; k < 398; k++) {
            owe(x, 0, 1, 0, 0);
        }
        Check.state("29: there would be more than 400", () -> x.cross(0, 3));
        Check.is("29: none, whatever the room", 0, x.cross(1, 3));
        NoonWords y = house(4);
        owe(y, 2, 1, 0, 10);
        owe(y, 1, 3, 0, 9);
        owe(y, 3, 2, 0, 8);
        for (int k = 3; k < 397; k++) {
            owe(y, 0, 1, 0, 0);
        }
        Check.is("29: just as many", 8, y.cross(0, 3));
        Check.is("29: full", 400, y.count(6));
    }

    private static void isStep(NoonWords x, int set, int k, int pays, int to, int many) {
        Check.is("31: who pays, " + k, pays, x.step(0, set, k, 0));
        Check.is("31: to whom, " + k, to, x.step(0, set, k, 1));
        Check.is("31: how many, " + k, many, x.step(0, set, k, 2));
    }

    private static void fewest() {
        NoonWords x = house(12);
        Check.is("30: nothing is owed", 0, x.fewest(0, 511));
        owe(x, 0, 1, 0, 10);
        owe(x, 1, 2, 0, 10);
        Check.is("30: one pays on", 1, x.fewest(0, 7));
        isStep(x, 7, 0, 0, 2, 10);
        isStep(x, 7, 1, -1, -1, -1);
        isStep(x, 7, -1, -1, -1, -1);
        Check.is("30: within the set alone", 1, x.fewest(0, 3));
        isStep(x, 3, 0, 0, 1, 10);
        Check.is("30: one alone", 0, x.fewest(0, 1));
        Check.is("30: another coin", 0, x.fewest(1, 7));
        owe(x, 3, 2, 0, 4);
        owe(x, 3, 0, 0, 3);
        // 0 owes 7, 3 owes 7, 2 is owed 14.
        Check.is("30: two pay one", 2, x.fewest(0, 15));
        isStep(x, 15, 0, 0, 2, 7);
        isStep(x, 15, 1, 3, 2, 7);
        Check.argument("30: the coin", () -> x.fewest(4, 1));
        Check.argument("30: an empty set", () -> x.fewest(0, 0));
        Check.argument("30: no such broker", () -> x.fewest(0, 4097));
        Check.argument("30: below 0", () -> x.fewest(0, -1));
        Check.argument("30: ten", () -> x.fewest(0, 1023));
        Check.is("30: nine of twelve", 2, x.fewest(0, 0x3f | 0xe00));
        Check.argument("31: the coin", () -> x.step(-1, 1, 0, 0));
        Check.argument("31: the set", () -> x.step(0, 0, 0, 0));
        Check.argument("31: the set", () -> x.step(0, 1023, 0, 0));
        Check.argument("31: another what", () -> x.step(0, 1, 0, 3));
        Check.argument("31: another what", () -> x.step(0, 1, 0, -1));
    }

    /** One more broker, the last, is owed or owes what these have, so that within the set they have just these. */
    private static NoonWords balances(int... owed) {
        NoonWords x = house(owed.length);
        for (int k = 0; k + 1 < owed.length; k++) {
            if (owed[k] > 0) {
                owe(x, owed.length - 1, k, 0, owed[k]);
            } else if (owed[k] < 0) {
                owe(x, k, owed.length - 1, 0, -owed[k]);
            }
        }
        return x;
    }

    private static void groups() {
        NoonWords x = balances(-5, 3, 2, -3, -2, 5);
        // Three groups: 0 with 5, 1 with 3, 2 with 4; and {0, 1, 2} with {3, 4, 5} are but two.
        Check.is("30: three groups", 3, x.fewest(0, 63));
        isStep(x, 63, 0, 0, 5, 5);
        isStep(x, 63, 1, 3, 1, 3);
        isStep(x, 63, 2, 4, 2, 2);
        NoonWords y = balances(-4, 4, 4, -4, 6, -6);
        Check.is("30: three groups", 3, y.fewest(0, 63));
        isStep(y, 63, 0, 0, 1, 4);
        isStep(y, 63, 1, 3, 2, 4);
        isStep(y, 63, 2, 5, 4, 6);
        NoonWords z = balances(-7, 1, 6, -5, 2, 3, 1, -6, 5);
        // The greatest number of groups is 3; the least set with 0 of those ways comes first: 0, 1 and 2.
        Check.is("30: nine less groups", 6, z.fewest(0, 511));
        isStep(z, 511, 0, 0, 1, 1);
        isStep(z, 511, 1, 0, 2, 6);
        isStep(z, 511, 2, 3, 4, 2);
        isStep(z, 511, 3, 3, 5, 3);
        isStep(z, 511, 4, 7, 6, 1);
        isStep(z, 511, 5, 7, 8, 5);
        isStep(z, 511, 6, -1, -1, -1);
        NoonWords one = balances(-1, -2, -4, -8, -16, -32, -64, -128, 255);
        Check.is("30: one group of nine", 8, one.fewest(0, 511));
        isStep(one, 511, 7, 7, 8, 128);
    }

    private static void entry() {
        NoonWords x = house(2);
        Check.none("32: no such entry", () -> x.entry(0, 9));
        x.go(7);
        owe(x, 0, 1, 2, 11);
        int[] entry = {7, 0, 1, 0, 2, -11, 2};
        for (int what = 0; what < 7; what++) {
            Check.is("32: what " + what, entry[what], x.entry(0, what));
        }
        Check.none("32: no such entry", () -> x.entry(1, 0));
        Check.none("32: no such entry", () -> x.entry(-1, 0));
        Check.argument("32: another what", () -> x.entry(0, 7));
        Check.argument("32: another what", () -> x.entry(0, -1));
    }
}
