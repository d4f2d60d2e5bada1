/** Promises 33 to 35: expect, dry, plan. */
public final class ComingTest {
    public static void main(String[] args) {
        expect();
        mayBeDry();
        surelyDry();
        dryWords();
        planArguments();
        planRight();
        planBest();
        Check.end();
    }

    private static NoonWords house(int brokers) {
        NoonWords x = new NoonWords();
        x.town();
        x.town();
        x.road(0, 1, 3);
        for (int k = 0; k < brokers; k++) {
            x.broker(k % 2, 0);
        }
        return x;
    }

    private static void owe(NoonWords x, int a, int b, int coin, int many) {
        x.goods(b, a, coin, 0, 1, many);
    }

    private static void expect() {
        NoonWords x = house(1);
        x.go(5);
        Check.none("33: no such broker", () -> x.expect(1, 4, 5, 0, 0));
        Check.argument("33: the coin", () -> x.expect(0, 4, 5, 0, 0));
        Check.argument("33: the coin", () -> x.expect(0, -1, 5, 0, 0));
        Check.argument("33: the day is below now", () -> x.expect(0, 0, 4, 0, 0));
        Check.argument("33: the day", () -> x.expect(0, 0, 1000, 0, 0));
        Check.argument("33: low", () -> x.expect(0, 0, 5, -1000001, 0));
        Check.argument("33: low above high", () -> x.expect(0, 0, 5, 1, 0));
        Check.argument("33: high", () -> x.expect(0, 0, 5, 0, 1000001));
        Check.argument("33: both", () -> x.expect(0, 0, 5, 1000001, 1000001));
        Check.argument("33: both", () -> x.expect(0, 0, 5, -1000001, -1000001));
        Check.is("33: none", 0, x.count(7));
        Check.is("33: how many ahead", 0, x.expect(0, 0, 5, -1000000, 1000000));
        for (int k = 1; k < 80; k++) {
            Check.is("33: how many ahead", k, x.expect(0, 3, 999, 1, 1));
        }
        Check.is("33: there are 80", -1, x.expect(0, 0, 5, 0, 0));
        Check.argument("33: a wrong one throws yet", () -> x.expect(0, 0, 4, 0, 0));
        Check.is("33: 80 yet", 80, x.count(7));
    }

    private static void mayBeDry() {
        NoonWords x = house(2);
        x.put(0, 0, 10);
        Check.is("34: never", -1, x.dry(0, 0, false));
        x.expect(0, 0, 20, -11, 50);
        x.expect(0, 0, 30, -5, -5);
        Check.is("34: the first day", 20, x.dry(0, 0, false));
        x.expect(0, 0, 20, 1, 1);
        Check.is("34: 0 is not below 0", 30, x.dry(0, 0, false));
        x.expect(0, 0, 3, 2, 9);
        x.expect(0, 1, 3, 100, 100);
        x.expect(1, 0, 3, 100, 100);
        Check.is("34: of this broker and coin", 30, x.dry(0, 0, false));
        x.expect(0, 0, 25, 3, 3);
        Check.is("34: never", -1, x.dry(0, 0, false));
        x.go(4);
        Check.is("34: what is over is gone", 30, x.dry(0, 0, false));
        x.go(27);
        Check.is("34: what is over is gone", -1, x.dry(0, 0, false));
        x.expect(0, 0, 31, -11, 0);
        Check.is("34: now", 31, x.dry(0, 0, false));
        x.expect(1, 3, 999, -1, 0);
        Check.is("34: the last day", 999, x.dry(1, 3, false));
        Check.none("34: no such broker", () -> x.dry(2, 4, true));
        Check.argument("34: the coin", () -> x.dry(0, 4, true));
        Check.argument("34: the coin", () -> x.dry(0, -1, false));
    }

    private static void surelyDry() {
        NoonWords x = house(2);
        x.put(1, 0, 10);
        x.expect(1, 0, 9, -100, -10);
        x.tell(0, 1, 0, 500, 1);
        Check.is("34: surely not", -1, x.dry(1, 0, true));
        Check.is("34: maybe by the word", 3, x.dry(1, 0, false));
        x.expect(1, 0, 8, -100, -1);
        Check.is("34: surely", 9, x.dry(1, 0, true));
        x.go(9);
        Check.is("34: without what is over", -1, x.dry(1, 0, true));
    }

    private static void dryWords() {
        NoonWords x = house(4);
        x.put(1, 0, 10);
        x.tell(0, 1, 0, 6, 1);
        x.tell(2, 1, 1, 50, 1);
        x.tell(1, 0, 0, 6, 1);
        x.tell(0, 3, 0, 50, 1);
        Check.is("34: enough for one", -1, x.dry(1, 0, false));
        x.go(1);
        x.put(1, 0, -6);
        x.tell(0, 1, 0, 5, 1);
        Check.is("34: not enough for two", 4, x.dry(1, 0, false));
        x.go(5);
        Check.is("34: ready before now", 6, x.dry(1, 0, false));
        x.pay(0, 1);
        Check.is("34: the other one yet", 6, x.dry(1, 0, false));
        x.put(1, 0, 1);
        Check.is("34: a paid one is not asked", -1, x.dry(1, 0, false));
        x.put(1, 0, -1);
        Check.is("34: one that isn't dead", 6, x.dry(1, 0, false));
        x.put(1, 0, 5);
        x.pay(4, 0);
        x.pay(4, 0);
        x.pay(4, 0);
        x.put(1, 0, -5);
        Check.is("34: a dead one is not asked", -1, x.dry(1, 0, false));
        x.tell(0, 1, 0, 7, 1);
        Check.is("34: told", 9, x.dry(1, 0, false));
        x.back(5);
        Check.is("34: stopped before it is ready", -1, x.dry(1, 0, false));
        NoonWords y = house(2);
        for (int k = 0; k < 9; k++) {
            y.go(100);
        }
        y.go(97);
        y.tell(0, 1, 0, 7, 1);
        Check.is("34: ready behind the last day", -1, y.dry(1, 0, false));
    }

    private static long debts(int... pairs) {
        long debts = 0;
        for (int k = 0; k < pairs.length; k += 2) {
            debts |= (long) (pairs[k] | pairs[k + 1] << 4) << 4 * k;
        }
        return debts;
    }

    private static void planArguments() {
        NoonWords x = house(3);
        owe(x, 0, 1, 2, 5);
        owe(x, 1, 2, 2, 5);
        x.put(0, 2, 5);
        x.put(1, 2, 5);
        long one = debts(0, 1);
        Check.is("35: in the first week", 1, x.plan(2, one, 1, 4, -1));
        Check.is("35: higher bits aren't asked", 1, x.plan(2, one | -256L, 1, 1, 0));
        Check.is("35: two", 1, x.plan(2, debts(0, 1, 1, 2), 2, 1, 1));
        Check.argument("35: the coin", () -> x.plan(4, one, 1, 4, -1));
        Check.argument("35: another coin has no such net", () -> x.plan(0, one, 1, 4, -1));
        Check.argument("35: none", () -> x.plan(2, one, 0, 4, -1));
        Check.argument("35: seven", () -> x.plan(2, one, 7, 4, -1));
        Check.argument("35: no such broker owes", () -> x.plan(2, debts(3, 1), 1, 4, -1));
        Check.argument("35: no such broker is owed", () -> x.plan(2, debts(0, 3), 1, 4, -1));
        Check.argument("35: no such broker at all", () -> x.plan(2, 255, 1, 4, -1));
        NoonWords y = house(12);
        owe(y, 0, 1, 2, 5);
        for (int none = 12; none < 16; none++) {
            int k = none;
            Check.argument("35: no such broker owes", () -> y.plan(2, debts(k, 1), 1, 4, -1));
            Check.argument("35: no such broker is owed", () -> y.plan(2, debts(0, k), 1, 4, -1));
        }
        Check.argument("35: two alike", () -> x.plan(2, debts(0, 1, 0, 1), 2, 4, -1));
        Check.argument("35: a net below 0", () -> x.plan(2, debts(1, 0), 1, 4, -1));
        Check.argument("35: a net of 0", () -> x.plan(2, debts(0, 2), 1, 4, -1));
        Check.argument("35: of itself", () -> x.plan(2, debts(0, 0), 1, 4, -1));
        Check.argument("35: weeks", () -> x.plan(2, one, 1, 0, -1));
        Check.argument("35: weeks", () -> x.plan(2, one, 1, 5, -1));
        Check.argument("35: what", () -> x.plan(2, one, 1, 4, -2));
        Check.argument("35: what", () -> x.plan(2, one, 1, 4, 1));
    }

    private static void planRight() {
        NoonWords x = house(4);
        owe(x, 0, 1, 0, 10);
        long one = debts(0, 1);
        Check.is("35: none is right", -1, x.plan(0, one, 1, 4, -1));
        Check.is("35: none is right", -1, x.plan(0, one, 1, 4, 0));
        x.expect(0, 0, 15, 9, 100);
        x.put(0, 0, 1);
        Check.is("35: low, by the day", 3, x.plan(0, one, 1, 4, -1));
        Check.is("35: not in so few", -1, x.plan(0, one, 1, 2, -1));
        x.go(1);
        Check.is("35: by the very day", 2, x.plan(0, one, 1, 4, -1));
        x.expect(0, 0, 29, -1, 0);
        Check.is("35: behind the last week, too", -1, x.plan(0, one, 1, 4, -1));
        Check.is("35: behind these weeks alone", 2, x.plan(0, one, 1, 3, -1));
        x.put(0, 0, 1);
        Check.is("35: enough", 2, x.plan(0, one, 1, 4, -1));
        x.expect(3, 0, 2, -1, 0);
        Check.is("35: each broker", -1, x.plan(0, one, 1, 4, -1));
        x.put(3, 0, 1);
        Check.is("35: each broker", 2, x.plan(0, one, 1, 4, -1));
        x.go(15);
        Check.is("35: what is over is gone", -1, x.plan(0, one, 1, 1, -1));
        x.expect(2, 1, 20, -1, 0);
        x.put(0, 0, 8);
        Check.is("35: another coin is not asked", 1, x.plan(0, one, 1, 1, -1));
    }

    private static void planBest() {
        NoonWords x = house(4);
        owe(x, 0, 1, 0, 10);
        owe(x, 1, 2, 0, 10);
        owe(x, 2, 3, 0, 10);
        x.put(0, 0, 10);
        long chain = debts(2, 3, 1, 2, 0, 1);
        for (int what = -1; what < 3; what++) {
            Check.is("35: with what comes that week", 1, x.plan(0, chain, 3, 4, what));
        }
        x.put(0, 0, -10);
        x.put(2, 0, 10);
        x.expect(0, 0, 9, 10, 10);
        int[] weeks = {2, 1, 2, 2};
        for (int what = -1; what < 3; what++) {
            Check.is("35: the least sum, " + what, weeks[what + 1], x.plan(0, chain, 3, 4, what));
        }
        NoonWords y = house(3);
        owe(y, 0, 1, 0, 10);
        owe(y, 0, 2, 0, 10);
        y.put(0, 0, 10);
        y.expect(0, 0, 14, 10, 10);
        Check.is("35: the lesser week first", 1, y.plan(0, debts(0, 1, 0, 2), 2, 4, 0));
        Check.is("35: the other later", 2, y.plan(0, debts(0, 1, 0, 2), 2, 4, 1));
        Check.is("35: by their order", 1, y.plan(0, debts(0, 2, 0, 1), 2, 4, 0));
        NoonWords v = house(4);
        owe(v, 0, 1, 0, 10);
        owe(v, 0, 2, 0, 5);
        owe(v, 0, 3, 0, 5);
        v.put(0, 0, 10);
        v.expect(0, 0, 14, 10, 10);
        // 1 2 2 comes first by its weeks, but 2 1 1 has the lesser sum.
        int[] lesser = {2, 2, 1, 1};
        for (int what = -1; what < 3; what++) {
            Check.is("35: the least sum ahead of the first, " + what, lesser[what + 1],
                    v.plan(0, debts(0, 1, 0, 2, 0, 3), 3, 4, what));
        }
        NoonWords u = house(4);
        owe(u, 0, 1, 0, 9);
        owe(u, 0, 2, 0, 4);
        owe(u, 0, 3, 0, 4);
        u.put(0, 0, 5);
        u.expect(0, 0, 10, 4, 4);
        u.expect(0, 0, 20, 4, 4);
        u.expect(0, 0, 28, 4, 4);
        // 5, 9, 13 and 17 in all: 4 and then 9 till week 3 has sum 1 + 3 + 4; 4, 4 and then 9 has 1 + 2 + 4.
        int[] late = {4, 4, 1, 2};
        for (int what = -1; what < 3; what++) {
            Check.is("35: the least latest week first, " + what, late[what + 1],
                    u.plan(0, debts(0, 1, 0, 2, 0, 3), 3, 4, what));
        }
        NoonWords z = house(8);
        for (int k = 1; k < 7; k++) {
            owe(z, 0, k, 0, k);
        }
        z.put(0, 0, 9);
        z.expect(0, 0, 10, 8, 8);
        z.expect(0, 0, 20, 4, 4);
        // 21 in all: 9 by week 1, 17 by week 2, 21 by week 3.
        int[] best = {3, 1, 1, 1, 2, 2, 3};
        for (int what = -1; what < 6; what++) {
            Check.is("35: six, " + what, best[what + 1],
                    z.plan(0, debts(0, 1, 0, 2, 0, 3, 0, 4, 0, 5, 0, 6), 6, 4, what));
        }
    }
}
