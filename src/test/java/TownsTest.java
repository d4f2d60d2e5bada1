/** Promises 1 to 7: a new object, go, town, road, lag, rate, rateAt. */
public final class TownsTest {
    public static void main(String[] args) {
        newObject();
        go();
        town();
        road();
        lag();
        rate();
        rateAt();
        Check.end();
    }

    private static NoonWords towns(int many) {
        NoonWords x = new NoonWords();
        for (int k = 0; k < many; k++) {
            x.town();
        }
        return x;
    }

    private static void newObject() {
        NoonWords x = new NoonWords();
        Check.is("1: NONE", -1, NoonWords.NONE);
        for (int what = 0; what <= 9; what++) {
            Check.is("1: count " + what, 0, x.count(what));
        }
        for (int tray = 0; tray < 4; tray++) {
            int t = tray;
            Check.state("1: tray " + t + " is missing", () -> x.read(t, 0));
        }
        Check.is("1: no fault", 0, x.fault(0));
        Check.none("1: no town", () -> x.lag(0, 0));
        Check.none("1: no broker", () -> x.drawer(0, 0));
        Check.none("1: no word", () -> x.word(0, 0));
        Check.none("1: no entry", () -> x.entry(0, 0));
    }

    private static void go() {
        NoonWords x = new NoonWords();
        Check.argument("2: no days", () -> x.go(0));
        Check.argument("2: days back", () -> x.go(-1));
        Check.argument("2: too many days", () -> x.go(101));
        Check.is("2: a day", 1, x.go(1));
        for (int k = 0; k < 9; k++) {
            Check.is("2: a hundred days", 101 + 100 * k, x.go(100));
        }
        Check.state("2: above 999", () -> x.go(99));
        Check.argument("2: not so many comes first", () -> x.go(101));
        Check.is("2: nothing changed", 901, x.count(0));
        Check.is("2: the last day", 999, x.go(98));
        Check.state("2: none behind it", () -> x.go(1));
    }

    private static void town() {
        NoonWords x = new NoonWords();
        for (int k = 0; k < 8; k++) {
            Check.is("3: a town", k, x.town());
        }
        Check.is("3: there are 8", -1, x.town());
        Check.is("3: there are 8 yet", 8, x.count(1));
    }

    private static void road() {
        NoonWords x = towns(3);
        Check.is("4: there was none", -1, x.road(0, 1, 9));
        Check.is("4: what it was", 9, x.road(1, 0, 1));
        Check.is("4: both ways alike", 1, x.road(0, 1, 5));
        Check.none("4: no such town", () -> x.road(0, 3, 1));
        Check.none("4: no such town", () -> x.road(-1, 0, 1));
        Check.none("4: no town comes first", () -> x.road(3, 3, 0));
        Check.argument("4: both are one", () -> x.road(2, 2, 1));
        Check.argument("4: too short", () -> x.road(0, 2, 0));
        Check.argument("4: too long", () -> x.road(0, 2, 10));
        Check.is("4: nothing changed", -1, x.lag(0, 2));
        Check.is("4: the shortest", -1, x.road(0, 2, 1));
        Check.is("4: the longest", 1, x.road(0, 2, 9));
    }

    private static void lag() {
        NoonWords x = towns(5);
        Check.is("5: to itself", 0, x.lag(4, 4));
        Check.is("5: none", -1, x.lag(0, 1));
        x.road(0, 1, 9);
        x.road(1, 2, 2);
        x.road(2, 3, 2);
        x.road(3, 0, 2);
        Check.is("5: by three roads", 6, x.lag(0, 1));
        Check.is("5: back alike", 6, x.lag(1, 0));
        x.road(2, 3, 9);
        Check.is("5: a road became longer", 9, x.lag(0, 1));
        x.road(0, 1, 1);
        Check.is("5: a road became shorter", 3, x.lag(0, 2));
        Check.is("5: no road leads there", -1, x.lag(0, 4));
        Check.none("5: no such town", () -> x.lag(0, 5));
        Check.none("5: no such town", () -> x.lag(-1, 0));
        NoonWords far = towns(8);
        for (int k = 0; k < 7; k++) {
            far.road(k, k + 1, 9);
        }
        Check.is("5: the farthest", 63, far.lag(0, 7));
    }

    private static void rate() {
        NoonWords x = towns(1);
        Check.none("6: no such town", () -> x.rate(1, 0, 0));
        Check.argument("6: coin 0", () -> x.rate(0, 0, 1));
        Check.argument("6: coin 4", () -> x.rate(0, 4, 1));
        Check.argument("6: no rate", () -> x.rate(0, 1, 0));
        Check.argument("6: too high a rate", () -> x.rate(0, 1, 1001));
        Check.is("6: none told", 0, x.count(3));
        for (int k = 0; k < 150; k++) {
            Check.is("6: how many ahead", k, x.rate(0, 1 + k % 3, 1 + k));
        }
        Check.is("6: there are 150", -1, x.rate(0, 1, 1000));
        Check.argument("6: a wrong one throws yet", () -> x.rate(0, 0, 1000));
        Check.is("6: the last one told", 148, x.rateAt(0, 1, 0));
        Check.is("6: 150 yet", 150, x.count(3));
    }

    private static void rateAt() {
        NoonWords x = towns(4);
        x.road(0, 1, 3);
        x.road(0, 2, 2);
        Check.is("7: without any", 100, x.rateAt(0, 1, 999));
        x.rate(1, 1, 300);
        x.rate(2, 1, 200);
        Check.is("7: not heard yet", 100, x.rateAt(0, 1, 1));
        Check.is("7: the near one", 200, x.rateAt(0, 1, 2));
        Check.is("7: of one day the least lag", 200, x.rateAt(0, 1, 3));
        Check.is("7: where it was told last", 300, x.rateAt(1, 1, 0));
        NoonWords y = towns(3);
        y.road(0, 1, 3);
        y.road(0, 2, 2);
        y.rate(2, 1, 200);
        y.rate(1, 1, 300);
        y.rate(1, 2, 400);
        Check.is("7: the least lag, told ahead", 200, y.rateAt(0, 1, 3));
        x.rate(2, 1, 201);
        Check.is("7: of like ones the last told", 201, x.rateAt(0, 1, 3));
        x.go(1);
        x.rate(1, 1, 400);
        Check.is("7: the latest day is not heard", 201, x.rateAt(0, 1, 3));
        Check.is("7: the latest day by a longer lag", 400, x.rateAt(0, 1, 4));
        x.rate(0, 1, 500);
        Check.is("7: in the town itself", 500, x.rateAt(0, 1, 1));
        Check.is("7: not the day ahead of it", 100, x.rateAt(0, 1, 0));
        Check.is("7: coin 0", 100, x.rateAt(0, 0, 1));
        Check.is("7: another coin", 100, x.rateAt(0, 2, 10));
        Check.is("7: no road", 100, x.rateAt(3, 1, 999));
        x.road(0, 1, 1);
        Check.is("7: by roads as they are now", 500, x.rateAt(0, 1, 1));
        Check.is("7: by roads as they are now", 201, x.rateAt(2, 1, 2));
        Check.is("7: the latest day with the least lag", 400, x.rateAt(1, 1, 2));
        Check.is("7: by roads as they are now", 500, x.rateAt(2, 1, 3));
        Check.none("7: no such town", () -> x.rateAt(4, 9, 0));
        Check.argument("7: the coin", () -> x.rateAt(0, 4, 0));
        Check.argument("7: the coin", () -> x.rateAt(0, -1, 0));
        Check.argument("7: the day", () -> x.rateAt(0, 1, -1));
        Check.argument("7: the day", () -> x.rateAt(0, 0, 1000));
    }
}
