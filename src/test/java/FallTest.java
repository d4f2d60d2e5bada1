/** Promises 36 to 40: falls, fell, ruin, wealth, run. */
public final class FallTest {
    public static void main(String[] args) {
        enough();
        split();
        ranks();
        rates();
        bears();
        bearsOfKin();
        coins();
        ofOne();
        firstBroker();
        words();
        limits();
        limitsOfOne();
        fell();
        wealth();
        ruin();
        ruinShares();
        run();
        Check.end();
    }

    /** Towns 0, 1, 2 with 0 to 1 in 3 days and 2 without roads; brokers by towns and kin. */
    private static NoonWords house(int... townsAndKin) {
        NoonWords x = new NoonWords();
        x.town();
        x.town();
        x.town();
        x.road(0, 1, 3);
        for (int k = 0; k < townsAndKin.length; k += 2) {
            x.broker(townsAndKin[k], townsAndKin[k + 1]);
        }
        return x;
    }

    private static void owe(NoonWords x, int a, int b, int coin, int many) {
        x.goods(b, a, coin, 0, 1, many);
    }

    private static void isEntry(NoonWords x, int k, int... entry) {
        for (int what = 0; what < 7; what++) {
            Check.is("36: entry " + k + ", " + what, entry[what], x.entry(k, what));
        }
    }

    private static void enough() {
        NoonWords x = house(0, 0, 0, 1, 1, 2, 0, 3);
        owe(x, 0, 1, 0, 30);
        owe(x, 0, 2, 0, 20);
        owe(x, 3, 0, 0, 99);
        x.put(0, 0, 60);
        x.put(0, 3, 7);
        x.go(2);
        Check.is("36: nothing is short", 0, x.falls(0));
        Check.is("36: its claim", 30, x.drawer(1, 0));
        Check.is("36: its claim", 20, x.drawer(2, 0));
        Check.is("36: a debtor has nothing", 0, x.drawer(3, 0));
        Check.is("36: its drawer is empty", 0, x.drawer(0, 0) + x.drawer(0, 3));
        Check.is("36: entries", 5, x.count(6));
        isEntry(x, 3, 2, 0, 0, 1, 0, -30, 4);
        isEntry(x, 4, 2, 0, 0, 2, 0, -20, 4);
        Check.is("36: nothing is owed", 0, x.owes(0, 1, 0));
        Check.state("36: it has fallen", () -> x.falls(0));
        Check.none("36: no such broker", () -> x.falls(4));
        Check.none("36: no such broker", () -> x.falls(-1));
        NoonWords y = house(0, 0);
        y.put(0, 1, 9);
        Check.is("36: alone", 0, y.falls(0));
        Check.is("36: no entries", 0, y.count(6));
        Check.is("36: empty", 0, y.drawer(0, 1));
    }

    private static void split() {
        NoonWords x = house(0, 0, 0, 1, 0, 1, 0, 1, 0, 1);
        owe(x, 0, 1, 0, 10);
        owe(x, 0, 2, 0, 10);
        owe(x, 0, 3, 0, 11);
        owe(x, 0, 4, 0, 1);
        x.put(0, 0, 8);
        // 80/32, 80/32, 88/32 and 8/32: 2, 2, 2, 0 with rests 16, 16, 24, 8.
        Check.is("36: short", 24, x.falls(0));
        Check.is("36: of like rests the lesser number", 3, x.drawer(1, 0));
        Check.is("36: of like rests not the greater", 2, x.drawer(2, 0));
        Check.is("36: the greatest rest", 3, x.drawer(3, 0));
        Check.is("36: nothing", 0, x.drawer(4, 0));
        Check.is("36: no entry of 0", 7, x.count(6));
        Check.is("36: owed yet", 1, x.owes(0, 4, 0));
        NoonWords y = house(0, 0, 0, 1, 0, 1);
        owe(y, 0, 1, 0, 5);
        y.falls(2);
        Check.is("36: nothing there", 5, y.falls(0));
        Check.is("36: no entry", 1, y.count(6));
        NoonWords z = house(0, 0, 0, 1, 0, 1);
        owe(z, 0, 1, 0, 5);
        owe(z, 0, 2, 0, 5);
        z.falls(2);
        z.put(0, 0, 9);
        Check.is("36: who has fallen is no creditor", 0, z.falls(0));
        Check.is("36: nothing comes to it", 0, z.drawer(2, 0));
        NoonWords full = house(0, 0, 0, 1);
        owe(full, 0, 1, 0, 5);
        full.put(0, 0, 5);
        full.put(1, 0, 9999999);
        full.falls(0);
        Check.is("36: above all is gone", 10000000, full.drawer(1, 0));
        Check.is("36: yet it counts", 0, full.owes(0, 1, 0));
    }

    private static void ranks() {
        // 0 falls; 1 is kin, 2 is kin far away, 3 is near, 4 and 5 are far, 6 is near.
        int[] who = {0, 0, 0, 0, 1, 0, 0, 1, 1, 1, 2, 2, 0, 2};
        NoonWords x = house(who);
        Check.text(x, "rank far 5;rank near 5-n/100;rank kin 0-1;rank kin 9 unless way=0;", 1, 0);
        Check.text(x, "rank kin 99;rank near 99;", 254, 0);
        for (int k = 1; k < 7; k++) {
            owe(x, 0, k, 0, k == 6 ? 100 : 10 * k);
        }
        x.put(0, 0, 240);
        // Ranks: 2 at 9; 3, 4, 5 at 5; 6 at 4; 1 at -1.
        Check.is("36: short", 10, x.falls(0));
        int[] has = {0, 0, 20, 30, 40, 50, 100};
        for (int k = 0; k < 7; k++) {
            Check.is("36: drawer " + k, has[k], x.drawer(k, 0));
        }
        isEntry(x, 6, 0, 0, 0, 2, 0, -20, 4);
        isEntry(x, 10, 0, 0, 0, 6, 0, -100, 4);
        NoonWords y = house(who);
        Check.text(y, "rank far 5;rank near 5-n/100;rank kin 0-1;rank kin 9 unless way=0;", 1, 0);
        for (int k = 1; k < 7; k++) {
            owe(y, 0, k, 0, k == 6 ? 100 : 10 * k);
        }
        y.put(0, 0, 20 + 121);
        Check.is("36: short", 109, y.falls(0));
        Check.is("36: all of one rank together", 30, y.drawer(3, 0));
        Check.is("36: all of one rank together", 40, y.drawer(4, 0));
        Check.is("36: all of one rank together", 50, y.drawer(5, 0));
        Check.is("36: the rest to the next", 1, y.drawer(6, 0));
        Check.is("36: none to the last", 0, y.drawer(1, 0));
    }

    private static void rates() {
        NoonWords x = house(0, 0, 1, 1, 0, 2);
        x.rate(0, 1, 33);
        x.rate(0, 2, 150);
        owe(x, 0, 1, 1, 100);
        owe(x, 0, 2, 2, 3);
        x.put(0, 1, 10);
        x.put(0, 2, 9);
        // Claims 33 and 4, the estate 3 and 13.
        Check.is("36: short", 21, x.falls(0));
        Check.is("36: in coin 0", 14, x.drawer(1, 0));
        Check.is("36: in coin 0", 2, x.drawer(2, 0));
        Check.is("36: coin 1 is owed yet", 100, x.owes(0, 1, 1));
        Check.is("36: less in coin 0", -14, x.owes(0, 1, 0));
        Check.is("36: the claim by what is left", 19, x.claim(0, 1));
    }

    private static void bears() {
        NoonWords x = house(0, 0, 0, 1, 0, 1, 1, 0, 0, 0, 2, 0);
        Check.text(x, "bears 50 unless n<100;bears 0-1 unless kin=1 and way=0 and n=150;", 1, 0);
        Check.text(x, "bears 100;", 254, 0);
        owe(x, 0, 1, 0, 100);
        owe(x, 0, 2, 0, 60);
        x.put(0, 0, 10);
        x.put(3, 0, 20);
        x.put(4, 0, 500);
        x.put(5, 0, 500);
        x.put(5, 1, 500);
        x.falls(5);
        // Short 150, borne 75; two of its kin have not fallen: 37 each, but one has 20 alone: 57.
        // Of 10: 6 and 4 (rests 40 of 160 and 120 of 160: 6.25, 3.75). Missing 94 and 56.
        Check.is("36: short less what is borne", 150 - 57, x.falls(0));
        Check.is("36: at most what it has", 0, x.drawer(3, 0));
        Check.is("36: by how many these are", 463, x.drawer(4, 0));
        // 57 by 94 and 56 of 150: 35.72 and 21.28.
        Check.is("36: by what each is missing", 6 + 36, x.drawer(1, 0));
        Check.is("36: by what each is missing", 4 + 21, x.drawer(2, 0));
        isEntry(x, 2, 0, 0, 0, 1, 0, -6, 4);
        isEntry(x, 3, 0, 0, 0, 2, 0, -4, 4);
        isEntry(x, 4, 0, 0, 0, 1, 0, -36, 5);
        isEntry(x, 5, 0, 0, 0, 2, 0, -21, 5);
        Check.is("36: entries", 6, x.count(6));
        Check.is("36: owed yet", 58, x.owes(0, 1, 0));
        NoonWords y = house(0, 0, 0, 1);
        Check.text(y, "bears 100;", 1, 0);
        owe(y, 0, 1, 0, 100);
        y.put(1, 0, 100);
        Check.is("36: without kin", 100, y.falls(0));
    }

    private static void bearsOfKin() {
        NoonWords x = house(0, 0, 0, 0, 0, 1);
        Check.text(x, "bears 100;rank kin 1;", 1, 0);
        owe(x, 0, 1, 0, 30);
        owe(x, 0, 2, 0, 50);
        x.put(0, 0, 30);
        x.put(1, 0, 5);
        // 1 has its 30 first, then it bears 35 of 50; all of it comes to 2.
        Check.is("36: kin that are creditors bear too", 15, x.falls(0));
        Check.is("36: with what came so far", 0, x.drawer(1, 0));
        Check.is("36: what is borne", 35, x.drawer(2, 0));
        NoonWords y = house(0, 0, 0, 0);
        Check.text(y, "bears 100;", 1, 0);
        owe(y, 0, 1, 0, 30);
        y.put(1, 0, 100);
        Check.is("36: it bears its own", 0, y.falls(0));
        Check.is("36: it leaves and comes", 100, y.drawer(1, 0));
        isEntry(y, 1, 0, 0, 0, 1, 0, -30, 5);
        NoonWords z = house(0, 0, 0, 0);
        Check.text(z, "bears 100;", 1, 0);
        owe(z, 0, 1, 0, 30);
        z.put(0, 0, 10);
        z.put(1, 0, 9999995);
        // 10 come, of which 5 are gone; 20 leave and 20 come again.
        Check.is("36: it bears its own", 0, z.falls(0));
        Check.is("36: what was gone is gone", 10000000, z.drawer(1, 0));
    }

    private static void coins() {
        NoonWords x = house(0, 0, 0, 1, 0, 2, 0, 0);
        Check.text(x, "rank near 1;rank near n-50 unless coin=1;bears 10;bears 50 unless not coin=0;", 1, 0);
        owe(x, 0, 1, 1, 40);
        owe(x, 0, 2, 1, 60);
        x.put(0, 1, 70);
        x.put(3, 0, 100);
        Check.is("36: asked of coin 0", 15, x.falls(0));
        Check.is("36: the greater rank", 60, x.drawer(2, 0));
        Check.is("36: the rest and what is borne", 25, x.drawer(1, 0));
    }

    private static void ofOne() {
        NoonWords x = house(0, 0, 0, 1, 0, 2);
        Check.text(x, "rank near 5-n;", 1, 0);
        owe(x, 0, 1, 0, 2);
        owe(x, 0, 2, 0, 1);
        x.put(0, 0, 1);
        Check.is("36: a claim of 1", 2, x.falls(0));
        Check.is("36: its rank", 1, x.drawer(2, 0));
        NoonWords y = house(0, 0, 1, 1);
        y.rate(0, 1, 100);
        y.rate(1, 1, 50);
        owe(y, 0, 1, 1, 1);
        y.put(0, 0, 1);
        Check.is("23: a claim in its town", 1, y.claim(0, 1));
        Check.is("39: worth nothing in the other's", 0, y.wealth(1));
        owe(y, 1, 0, 2, 1);
        y.put(0, 2, 9);
        owe(y, 0, 1, 3, 1);
        y.rate(0, 2, 1);
        y.rate(1, 2, 100);
        // In town 1: 0 - 1 + 1 is 0, so it has nothing of the estate; in town 0 it has a claim of 1.
        Check.is("23: a claim yet", 1, y.claim(0, 1));
        owe(y, 1, 0, 0, 0);
        Check.is("38: not above 0 it stays", 1, y.ruin(0, 0));
        y.broker(1, 2);
        owe(y, 1, 2, 0, 1);
        Check.is("38: a share would have saved it", 3, y.ruin(0, 0));
    }

    private static void firstBroker() {
        NoonWords x = house(0, 0, 0, 1, 0, 0, 0, 3);
        Check.text(x, "bears 100;", 1, 0);
        owe(x, 2, 0, 0, 10);
        owe(x, 2, 3, 0, 10);
        x.put(0, 0, 9);
        x.put(2, 0, 10);
        // 5 each; 0 bears 10 of its 14, and half of it comes back.
        Check.is("36: the first one bears", 0, x.falls(2));
        Check.is("36: the first one has its part", 9, x.drawer(0, 0));
        Check.is("36: and the last one", 10, x.drawer(3, 0));
        isEntry(x, 2, 0, 0, 2, 0, 0, -5, 4);
        isEntry(x, 4, 0, 0, 2, 0, 0, -5, 5);
    }

    private static void limitsOfOne() {
        NoonWords x = house(0, 0, 0, 1, 0, 1, 0, 0);
        Check.text(x, "bears 50;", 1, 0);
        owe(x, 1, 0, 0, 1);
        owe(x, 1, 3, 0, 2);
        x.put(1, 0, 1);
        x.put(2, 0, 1);
        // 1 to broker 3 and then, of 2 missing, 1 is borne and goes to broker 0.
        for (int k = 2; k < 399; k++) {
            owe(x, 0, 3, 0, 0);
        }
        Check.state("36: two entries of 1", () -> x.falls(1));
        NoonWords y = house(0, 0, 0, 1);
        owe(y, 1, 0, 0, 7);
        y.put(1, 0, 7);
        for (int k = 1; k < 400; k++) {
            owe(y, 0, 1, 0, 0);
        }
        Check.state("36: an entry to the first broker", () -> y.falls(1));
        NoonWords z = house(0, 0, 0, 1);
        owe(z, 1, 0, 0, 1);
        z.put(1, 0, 1);
        for (int k = 1; k < 400; k++) {
            owe(z, 0, 1, 0, 0);
        }
        Check.state("36: an entry of 1", () -> z.falls(1));
    }

    private static void words() {
        NoonWords x = house(0, 0, 1, 1, 0, 2);
        x.put(1, 0, 100);
        x.put(2, 0, 100);
        x.tell(0, 1, 0, 5, 1);
        x.tell(0, 1, 0, 6, 1);
        x.twin(1, 2);
        x.tell(1, 0, 0, 7, 1);
        x.tell(0, 1, 0, 8, 1);
        x.back(4);
        x.go(3);
        x.pay(0, 1);
        x.go(1);
        x.falls(0);
        Check.is("36: a paid one stays", 63, x.word(0, 5));
        Check.is("36: stop when it is heard", 7, x.word(1, 5));
        Check.is("36: a twin's, too", 4, x.word(2, 5));
        Check.is("36: others' words stay", 63, x.word(3, 5));
        Check.is("36: stop not later", 3, x.word(4, 5));
        x.go(2);
        Check.is("17: till then it may be paid", 1, x.pay(1, 1));
        Check.state("17: not the twin", () -> x.pay(2, 1));
    }

    private static void limits() {
        NoonWords x = house(0, 0, 0, 1, 0, 2, 0, 0);
        Check.text(x, "bears 100;", 1, 0);
        owe(x, 0, 1, 0, 10);
        owe(x, 0, 2, 0, 10);
        x.put(0, 0, 10);
        x.put(3, 0, 10);
        for (int k = 2; k < 397; k++) {
            owe(x, 1, 2, 0, 0);
        }
        x.tell(0, 1, 3, 1, 1);
        x.put(0, 3, -1);
        Check.state("36: there would be more than 400", () -> x.falls(0));
        Check.is("36: nothing changed", 10, x.drawer(0, 0));
        Check.is("36: nothing changed", 10, x.drawer(3, 0));
        Check.is("36: nothing changed", 0, x.drawer(1, 0));
        Check.is("36: nothing changed", 60, x.word(0, 5));
        Check.is("36: nothing changed", -1, x.fell(0));
        Check.is("36: nothing changed", 397, x.count(6));
        x.put(3, 0, -9);
        // Now but one of sort 5 comes: 3 in all.
        Check.is("36: just as many", 9, x.falls(0));
        Check.is("36: full", 400, x.count(6));
        Check.is("36: one that brings none", 0, x.falls(3));
    }

    private static void fell() {
        NoonWords x = house(0, 0, 0, 1);
        Check.is("37: not yet", -1, x.fell(0));
        x.go(9);
        x.falls(0);
        x.go(1);
        Check.is("37: the day", 9, x.fell(0));
        Check.is("37: the other one", -1, x.fell(1));
        Check.is("46: fallen", 1, x.count(8));
        Check.none("37: no such broker", () -> x.fell(2));
        Check.none("37: no such broker", () -> x.fell(-1));
    }

    private static void wealth() {
        NoonWords x = house(0, 0, 1, 1, 0, 2);
        x.rate(1, 1, 150);
        x.put(1, 1, 3);
        x.put(1, 0, 10);
        Check.is("39: the drawer", 14, x.wealth(1));
        owe(x, 1, 0, 1, 5);
        Check.is("39: what it owes, rounded down", 14 - 8, x.wealth(1));
        Check.is("39: by rates in its own town", 5, x.wealth(0));
        owe(x, 2, 1, 0, 20);
        Check.is("39: what it is owed", 26, x.wealth(1));
        Check.is("39: below 0", -20, x.wealth(2));
        x.put(2, 0, 5);
        x.falls(2);
        Check.is("39: of one that fell nothing more", 11, x.wealth(1));
        Check.is("39: one that fell", -15, x.wealth(2));
        owe(x, 1, 0, 0, 20);
        x.falls(1);
        // 27 are owed to it, and 19 came.
        Check.is("39: none of an empty drawer", 19, x.wealth(0));
        Check.none("39: no such broker", () -> x.wealth(3));
        Check.none("39: no such broker", () -> x.wealth(-1));
    }

    private static void ruin() {
        NoonWords x = house(0, 0, 0, 1, 0, 2, 0, 3, 0, 4);
        owe(x, 0, 1, 0, 50);
        owe(x, 1, 2, 0, 40);
        owe(x, 2, 3, 0, 30);
        x.put(3, 0, 1);
        Check.is("38: one behind the other", 7, x.ruin(0, 0));
        Check.is("38: rounds", 2, x.ruin(0, 1));
        // 0 owes 50 and has nothing, so it comes down anyhow, and then the others.
        Check.is("38: who is below 0 anyhow", 23, x.ruin(4, 0));
        Check.is("38: rounds", 3, x.ruin(4, 1));
        x.put(0, 0, 50);
        Check.is("38: it alone", 16, x.ruin(4, 0));
        Check.is("38: with a full drawer", 1, x.ruin(0, 0));
        Check.is("38: no rounds", 0, x.ruin(0, 1));
        x.put(0, 0, -11);
        // 1 has nothing in its own drawer for 2, whatever it would have of 0.
        Check.is("38: one less than needed, by drawers as they are", 7, x.ruin(0, 0));
        Check.none("38: no such broker", () -> x.ruin(5, 2));
        Check.argument("38: another what", () -> x.ruin(0, 2));
        Check.argument("38: another what", () -> x.ruin(0, -1));
        x.falls(4);
        Check.is("38: those that have fallen", 16 | 7, x.ruin(0, 0));
        Check.is("38: rounds", 2, x.ruin(0, 1));
        Check.is("38: one that has fallen", 16 | 7, x.ruin(4, 0));
        Check.is("38: rounds", 3, x.ruin(4, 1));
        Check.is("38: nothing changed", 39, x.drawer(0, 0));
    }

    private static void ruinShares() {
        NoonWords x = house(0, 0, 0, 0, 0, 2, 1, 3);
        Check.text(x, "rank near 3;rank kin 2;bears 100;", 255, 0);
        owe(x, 0, 1, 0, 100);
        owe(x, 0, 2, 0, 100);
        owe(x, 0, 3, 0, 100);
        owe(x, 1, 3, 0, 50);
        owe(x, 2, 3, 0, 100);
        x.put(0, 0, 149);
        // By ranks: 2 has 100, 1 has 49, 3 has nothing; 1 owes 50 and comes down; then 3 has 49 of it.
        Check.is("38: by ranks, without kin", 3, x.ruin(0, 0));
        Check.is("38: one round", 1, x.ruin(0, 1));
        x.put(0, 0, 1);
        Check.is("38: just enough", 1, x.ruin(0, 0));
        x.put(0, 0, -51);
        // 99: 2 has 99 and is below 0; 1 has nothing: both come down in one round; then 3 has all of 0's 99.
        Check.is("38: two in one round", 7, x.ruin(0, 0));
        Check.is("38: two in one round", 1, x.ruin(0, 1));
        NoonWords y = house(0, 0, 0, 1, 0, 2);
        owe(y, 0, 1, 0, 60);
        owe(y, 0, 2, 0, 40);
        owe(y, 1, 2, 0, 30);
        y.put(0, 0, 49);
        // 49 by 60 and 40: 29.4 and 19.6.
        Check.is("38: a split", 3, y.ruin(0, 0));
        y.put(0, 0, 1);
        Check.is("38: just enough", 1, y.ruin(0, 0));
    }

    private static void run() {
        NoonWords x = house(0, 0, 1, 1, 0, 2, 2, 3, 0, 4, 1, 5);
        owe(x, 0, 1, 0, 40);
        owe(x, 0, 2, 0, 30);
        owe(x, 0, 3, 0, 20);
        owe(x, 0, 4, 0, 10);
        owe(x, 5, 0, 0, 10);
        x.put(0, 0, 79);
        Check.is("40: near ones", 4 | 16, x.run(0, 2, 0));
        Check.is("40: within the lag", 2 | 4 | 16, x.run(0, 3, 0));
        Check.is("40: none without roads", 2 | 4 | 16, x.run(0, 100, 0));
        Check.is("40: by lag, the last can't", 1, x.run(0, 3, 1));
        Check.is("40: those that come can", -1, x.run(0, 0, 1));
        x.put(0, 0, 1);
        Check.is("40: just enough", -1, x.run(0, 100, 1));
        x.put(0, 0, -41);
        Check.is("40: by number in one town", 4, x.run(0, 0, 1));
        x.put(0, 0, -10);
        Check.is("40: the first", 2, x.run(0, 100, 1));
        NoonWords y = house(0, 0, 0, 1);
        owe(y, 0, 1, 0, 1);
        Check.is("40: a claim of 1", 2, y.run(0, 0, 0));
        Check.is("40: a claim of 1", 1, y.run(0, 0, 1));
        x.falls(2);
        Check.is("40: not one that has fallen", 2 | 16, x.run(0, 100, 0));
        Check.is("40: none", 0, x.run(1, 100, 0));
        Check.is("40: none", -1, x.run(1, 100, 1));
        Check.none("40: no such broker", () -> x.run(6, 101, 0));
        Check.argument("40: days", () -> x.run(0, -1, 0));
        Check.argument("40: days", () -> x.run(0, 101, 0));
        Check.argument("40: another what", () -> x.run(0, 0, 2));
        Check.argument("40: another what", () -> x.run(0, 0, -1));
    }
}
