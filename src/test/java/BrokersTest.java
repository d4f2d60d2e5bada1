/** Promises 8 to 10: broker, put, drawer. */
public final class BrokersTest {
    public static void main(String[] args) {
        broker();
        put();
        drawer();
        Check.end();
    }

    private static void broker() {
        NoonWords x = new NoonWords();
        Check.none("8: no such town", () -> x.broker(0, 6));
        x.town();
        Check.none("8: no such town", () -> x.broker(1, 0));
        Check.argument("8: the kin", () -> x.broker(0, 6));
        Check.argument("8: the kin", () -> x.broker(0, -1));
        for (int k = 0; k < 12; k++) {
            Check.is("8: its number", k, x.broker(0, k % 6));
        }
        Check.is("8: there are 12", -1, x.broker(0, 0));
        Check.argument("8: a wrong one throws yet", () -> x.broker(0, 6));
        Check.is("8: 12 yet", 12, x.count(2));
    }

    private static NoonWords two() {
        NoonWords x = new NoonWords();
        x.town();
        x.broker(0, 0);
        x.broker(0, 1);
        return x;
    }

    private static void put() {
        NoonWords x = two();
        Check.is("9: some come", 7, x.put(0, 2, 7));
        Check.is("9: some leave", 3, x.put(0, 2, -4));
        Check.is("9: nothing", 3, x.put(0, 2, 0));
        Check.none("9: no such broker", () -> x.put(2, 4, 1));
        Check.argument("9: the coin", () -> x.put(0, 4, -1));
        Check.argument("9: the coin", () -> x.put(0, -1, 1));
        Check.state("9: below 0", () -> x.put(0, 2, -4));
        Check.state("9: far below 0", () -> x.put(0, 2, Integer.MIN_VALUE));
        Check.state("9: above all", () -> x.put(0, 2, 9999998));
        Check.state("9: far above all", () -> x.put(0, 2, Integer.MAX_VALUE));
        Check.is("9: nothing changed", 3, x.drawer(0, 2));
        Check.is("9: full", 10000000, x.put(0, 2, 9999997));
        Check.is("9: empty", 0, x.put(0, 2, -10000000));
        x.falls(0);
        Check.state("9: it has fallen", () -> x.put(0, 0, 0));
        Check.argument("9: the coin comes first", () -> x.put(0, 4, 0));
        Check.is("9: the other one has not", 1, x.put(1, 0, 1));
    }

    private static void drawer() {
        NoonWords x = two();
        Check.is("10: 0 at first", 0, x.drawer(1, 3));
        x.put(1, 3, 9);
        x.put(1, 0, 4);
        Check.is("10: by coins", 9, x.drawer(1, 3));
        Check.is("10: by coins", 4, x.drawer(1, 0));
        Check.is("10: by brokers", 0, x.drawer(0, 3));
        Check.none("10: no such broker", () -> x.drawer(-1, 4));
        Check.argument("10: the coin", () -> x.drawer(0, 4));
        Check.argument("10: the coin", () -> x.drawer(0, -1));
    }
}
