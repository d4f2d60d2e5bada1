/** Promises 41 to 46: tray, write, read, pour, book, count. */
public final class TraysTest {
    public static void main(String[] args) {
        tray();
        write();
        pour();
        book();
        count();
        Check.end();
    }

    private static long made(NoonWords x, int tray, int sort, int many) {
        x.tray(tray, sort, many);
        return 0;
    }

    private static long poured(NoonWords x, int from, int place, int to, int at, int many) {
        x.pour(from, place, to, at, many);
        return 0;
    }

    private static void tray() {
        NoonWords x = new NoonWords();
        Check.none("41: no such tray", () -> made(x, 4, 9, 99));
        Check.none("41: no such tray", () -> made(x, -1, 0, 1));
        Check.argument("41: no such sort", () -> made(x, 0, 4, 1));
        Check.argument("41: no such sort", () -> made(x, 0, -1, 1));
        Check.argument("41: too many", () -> made(x, 0, 0, 61));
        Check.argument("41: below 0", () -> made(x, 0, 0, -1));
        Check.state("41: missing yet", () -> x.read(0, 0));
        x.tray(0, 0, 0);
        Check.place("41: an empty one", () -> x.read(0, 0));
        x.tray(0, 3, 60);
        for (int k = 0; k < 60; k++) {
            Check.is("41: 0s", 0, x.read(0, k));
        }
        x.write(0, 59, 7);
        x.tray(0, 3, 60);
        Check.is("41: 0s again", 0, x.read(0, 59));
        x.write(0, 30, 7);
        x.tray(0, 3, 10);
        x.tray(0, 3, 60);
        Check.is("41: 0s again", 0, x.read(0, 30));
    }

    private static void write() {
        NoonWords x = new NoonWords();
        for (int sort = 0; sort < 4; sort++) {
            x.tray(sort, sort, 3);
        }
        long[] values = {127, 128, -128, -129, 32767, 32768, -32769, 2147483647L, 2147483648L, -2147483649L,
            Long.MAX_VALUE, Long.MIN_VALUE, 0x123456789abcdef0L};
        for (long v : values) {
            long[] cut = {(byte) v, (short) v, (int) v, v};
            for (int sort = 0; sort < 4; sort++) {
                Check.is("42: cut to sort " + sort, cut[sort], x.write(sort, 1, v));
                Check.is("43: as it is there", cut[sort], x.read(sort, 1));
            }
        }
        Check.is("43: the place ahead", 0, x.read(3, 0));
        Check.is("43: the place behind", 0, x.read(3, 2));
        Check.place("42: no such place", () -> x.write(0, 3, 0));
        Check.place("42: no such place", () -> x.write(0, -1, 0));
        Check.place("43: no such place", () -> x.read(0, 3));
        Check.place("43: no such place", () -> x.read(0, Integer.MIN_VALUE));
        Check.none("42: no such tray", () -> x.write(4, 3, 0));
        Check.none("43: no such tray", () -> x.read(-1, 3));
        NoonWords y = new NoonWords();
        Check.state("42: missing", () -> y.write(0, -1, 0));
        Check.state("43: missing", () -> y.read(3, -1));
    }

    private static void isRow(NoonWords x, int tray, long... row) {
        for (int k = 0; k < row.length; k++) {
            Check.is("44: tray " + tray + " place " + k, row[k], x.read(tray, k));
        }
    }

    private static void pour() {
        NoonWords x = new NoonWords();
        x.tray(0, 1, 5);
        x.tray(1, 1, 3);
        x.tray(2, 2, 5);
        for (int k = 0; k < 5; k++) {
            x.write(0, k, k + 1);
        }
        x.pour(0, 2, 1, 0, 3);
        isRow(x, 1, 3, 4, 5);
        isRow(x, 0, 1, 2, 3, 4, 5);
        x.pour(0, 0, 0, 1, 4);
        isRow(x, 0, 1, 1, 2, 3, 4);
        x.pour(0, 1, 0, 0, 4);
        isRow(x, 0, 1, 2, 3, 4, 4);
        x.pour(0, 5, 1, 3, 0);
        x.pour(1, 1, 0, 4, 1);
        isRow(x, 0, 1, 2, 3, 4, 4);
        x.pour(1, 2, 0, 0, 1);
        isRow(x, 0, 5, 2, 3, 4, 4);
        Check.none("44: no such tray", () -> poured(x, 4, 0, 3, 0, 1));
        Check.none("44: no such tray", () -> poured(x, 3, 0, -1, 0, 1));
        Check.state("44: missing", () -> poured(x, 3, -1, 0, 0, 1));
        Check.state("44: missing", () -> poured(x, 0, 0, 3, 0, -1));
        Check.state("44: unlike sorts", () -> poured(x, 0, 9, 2, 0, 1));
        Check.place("44: place below 0", () -> poured(x, 0, -1, 1, 0, 1));
        Check.place("44: at below 0", () -> poured(x, 0, 0, 1, -1, 1));
        Check.place("44: many below 0", () -> poured(x, 0, 1, 1, 1, -1));
        Check.place("44: many far below 0", () -> poured(x, 0, 1, 1, 1, Integer.MIN_VALUE));
        Check.place("44: not all there", () -> poured(x, 0, 3, 1, 0, 3));
        Check.place("44: no room for all", () -> poured(x, 0, 0, 1, 1, 3));
        Check.place("44: none of them there", () -> poured(x, 0, 6, 1, 0, 0));
        Check.place("44: far too many", () -> poured(x, 0, 1, 1, 1, Integer.MAX_VALUE));
        Check.place("44: far away", () -> poured(x, Integer.MAX_VALUE & 1, Integer.MAX_VALUE, 1, 0, 1));
        isRow(x, 0, 5, 2, 3, 4, 4);
        isRow(x, 1, 3, 4, 5);
    }

    private static void book() {
        NoonWords x = new NoonWords();
        x.town();
        x.broker(0, 0);
        x.broker(0, 0);
        x.put(1, 0, 300);
        x.put(1, 3, 4);
        x.goods(0, 1, 2, 0, 1, 70);
        Check.is("45: missing", -2, x.book(1, 0));
        x.tray(0, 0, 0);
        Check.is("45: no numbers", -3, x.book(1, 0));
        x.tray(0, 0, 1);
        x.write(0, 0, 300);
        Check.is("45: cut, it differs", 0, x.book(1, 0));
        x.tray(0, 1, 4);
        Check.is("45: differs", 0, x.book(1, 0));
        x.write(0, 0, 300);
        Check.is("45: differs", 3, x.book(1, 0));
        x.write(0, 3, 4);
        Check.is("45: right so far", -7, x.book(1, 0));
        x.tray(0, 1, 12);
        x.write(0, 0, 300);
        x.write(0, 3, 4);
        Check.is("45: the first that differs", 6, x.book(1, 0));
        x.write(0, 6, 70);
        Check.is("45: all is right", -1, x.book(1, 0));
        x.write(0, 11, 1);
        Check.is("45: of itself 0", 11, x.book(1, 0));
        Check.is("45: another one", 0, x.book(0, 0));
        x.tray(0, 3, 13);
        x.write(0, 10, -70);
        x.write(0, 12, 99);
        Check.is("45: what is behind isn't asked", -1, x.book(0, 0));
        x.broker(0, 0);
        Check.is("45: a broker more", 12, x.book(0, 0));
        x.write(0, 12, 0);
        Check.is("45: a broker more", -16, x.book(0, 0));
        Check.none("45: no such broker", () -> x.book(3, 0));
        Check.none("45: no such broker", () -> x.book(-1, 0));
        Check.none("45: no such tray", () -> x.book(0, 4));
        Check.none("45: no such tray", () -> x.book(0, -1));
    }

    private static void count() {
        NoonWords x = new NoonWords();
        x.go(11);
        x.town();
        for (int k = 0; k < 3; k++) {
            x.broker(0, 0);
        }
        for (int k = 0; k < 4; k++) {
            x.rate(0, 1, 1);
        }
        for (int k = 0; k < 5; k++) {
            x.text(0, 1, 0);
        }
        for (int k = 0; k < 6; k++) {
            x.tell(0, 1, 0, 1, 0);
        }
        for (int k = 0; k < 7; k++) {
            x.goods(0, 1, 0, 0, 1, 1);
        }
        for (int k = 0; k < 8; k++) {
            x.expect(0, 0, 11, 0, 0);
        }
        x.falls(2);
        x.feed(0, 0, 0, 0, 0);
        int[] counts = {11, 1, 3, 4, 5, 6, 7, 8, 1, 20};
        for (int what = 0; what < 10; what++) {
            Check.is("46: count " + what, counts[what], x.count(what));
        }
        Check.is("46: others", -1, x.count(10));
        Check.is("46: others", -1, x.count(-1));
        Check.is("46: others", -1, x.count(Integer.MAX_VALUE));
    }
}
