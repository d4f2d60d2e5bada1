/** Promises 41 to 46, sentence by sentence: trays, books and counts at their edges. */
public final class TraysEdgesTest {
    private static final int MIN = Integer.MIN_VALUE;
    private static final int MAX = Integer.MAX_VALUE;

    public static void main(String[] args) {
        traySorts();
        traySoMany();
        trayOf0s();
        trayNoSuchTray();
        writeCutToItsSort();
        writePlaces();
        writeMissing();
        readPlaces();
        readMissing();
        rowsApart();
        pourNone();
        pourAll();
        pourWithinOne();
        pourPlaces();
        pourNotAllThere();
        pourMissing();
        pourUnlikeSorts();
        pourNoSuchTray();
        bookMissing();
        bookEnds();
        bookDiffers();
        bookBehindIt();
        bookOfNarrowNumbers();
        bookOfTwelve();
        bookArguments();
        counts();
        countsOthers();
        Check.end();
    }

    private static long made(NoonWords x, int tray, int sort, int many) {
        x.tray(tray, sort, many);
        return 0;
    }

    private static long poured(NoonWords x, int from, int place, int to, int at, int many) {
        x.pour(from, place, to, at, many);
        return 0;
    }

    /** Trays 0 and 1 of sort 2, five and three long: 1 to 5, and 0s; 2 of sort 3; 3 missing. */
    private static NoonWords rows() {
        NoonWords x = House.inn(1);
        x.tray(0, 2, 5);
        x.tray(1, 2, 3);
        x.tray(2, 3, 5);
        for (int k = 0; k < 5; k++) {
            x.write(0, k, k + 1);
        }
        return x;
    }

    private static void isRow(String what, NoonWords x, int tray, long... row) {
        for (int k = 0; k < row.length; k++) {
            Check.is("44: " + what + ", place " + k, row[k], x.read(tray, k));
        }
        Check.place("44: " + what + " is no longer", () -> x.read(tray, row.length));
    }

    // Trays: "numbers of 8 bits (sort 0), 16 (1), 32 (2) or 64 (3)"; 41: "no such sort"
    private static void traySorts() {
        NoonWords x = House.inn(1);
        x.tray(0, 0, 1);
        x.tray(1, 3, 1);
        Check.is("42: of 8 bits", 0, x.write(0, 0, 256));
        Check.is("42: of 64 bits", 256L << 32, x.write(1, 0, 256L << 32));
        Check.calm("41", x, () -> {
            Check.argument("41: sort -1", () -> made(x, 0, -1, 1));
            Check.argument("41: sort 4", () -> made(x, 0, 4, 1));
            Check.argument("41: far away", () -> made(x, 2, MAX, 1));
        });
    }

    // Trays: "rows of 0 to 60 numbers"; 41: "or not so many"
    private static void traySoMany() {
        NoonWords x = House.inn(1);
        x.tray(0, 1, 0);
        Check.place("43: of 0 there is none", () -> x.read(0, 0));
        x.tray(1, 1, 60);
        Check.is("43: of 60 the last", 0, x.read(1, 59));
        Check.place("43: of 60 no more", () -> x.read(1, 60));
        Check.calm("41", x, () -> {
            Check.argument("41: -1", () -> made(x, 1, 1, -1));
            Check.argument("41: 61", () -> made(x, 1, 1, 61));
            Check.argument("41: far above", () -> made(x, 2, 1, MAX));
            Check.argument("41: far below", () -> made(x, 2, 1, MIN));
        });
        Check.state("43: still missing", () -> x.read(2, 0));
    }

    // 41: "A TRAY is a row of so many 0s"
    private static void trayOf0s() {
        NoonWords x = House.inn(1);
        for (int k = 0; k < 4; k++) {
            x.tray(3, k, 60);
            x.write(3, 0, 7);
            x.write(3, 59, 7);
            x.tray(3, 3 - k, 60);
            Check.is("41: the first", 0, x.read(3, 0));
            Check.is("41: the last", 0, x.read(3, 59));
        }
        x.write(3, 5, 9);
        x.tray(3, 0, 5);
        x.tray(3, 0, 6);
        Check.is("41: what was beyond a shorter one", 0, x.read(3, 5));
    }

    // 41: "NoSuchElementException: no such TRAY (as below)"
    private static void trayNoSuchTray() {
        NoonWords x = House.inn(1);
        Check.calm("41", x, () -> {
            Check.none("41: below 0", () -> made(x, -1, 0, 1));
            Check.none("41: 4", () -> made(x, 4, 0, 1));
            Check.none("41: told first", () -> made(x, 4, 4, 61));
            Check.none("42: below 0", () -> x.write(-1, 0, 0));
            Check.none("42: 4", () -> x.write(4, 0, 0));
            Check.none("43: below 0", () -> x.read(-1, 0));
            Check.none("43: 4", () -> x.read(4, 0));
            Check.none("43: far away", () -> x.read(MAX, 0));
        });
    }

    // 42: "A number comes to a place of a TRAY, cut to its sort: as it is there."
    private static void writeCutToItsSort() {
        NoonWords x = House.inn(1);
        int[] bits = {8, 16, 32};
        for (int sort = 0; sort < 3; sort++) {
            long top = 1L << bits[sort] - 1;
            x.tray(0, sort, 1);
            Check.is("42: the most", top - 1, x.write(0, 0, top - 1));
            Check.is("43: the most", top - 1, x.read(0, 0));
            Check.is("42: the least", -top, x.write(0, 0, -top));
            Check.is("43: the least", -top, x.read(0, 0));
            Check.is("42: one above", -top, x.write(0, 0, top));
            Check.is("42: one below", top - 1, x.write(0, 0, -top - 1));
            Check.is("42: all round", 0, x.write(0, 0, 2 * top));
            Check.is("42: all round and -1", -1, x.write(0, 0, 2 * top - 1));
            Check.is("42: all above", -1, x.write(0, 0, Long.MAX_VALUE));
            Check.is("42: all below", 0, x.write(0, 0, Long.MIN_VALUE));
            Check.is("43: as it is there", 0, x.read(0, 0));
        }
        x.tray(0, 3, 1);
        Check.is("42: all above", Long.MAX_VALUE, x.write(0, 0, Long.MAX_VALUE));
        Check.is("43: all above", Long.MAX_VALUE, x.read(0, 0));
        Check.is("42: all below", Long.MIN_VALUE, x.write(0, 0, Long.MIN_VALUE));
        Check.is("43: all below", Long.MIN_VALUE, x.read(0, 0));
    }

    // 42: "IndexOutOfBoundsException: it has no such place."
    private static void writePlaces() {
        NoonWords x = rows();
        Check.is("42: the first", 7, x.write(0, 0, 7));
        Check.is("42: the last", 8, x.write(0, 4, 8));
        Check.calm("42", x, () -> {
            Check.place("42: -1", () -> x.write(0, -1, 9));
            Check.place("42: 5", () -> x.write(0, 5, 9));
            Check.place("42: far above", () -> x.write(0, MAX, 9));
            Check.place("42: far below", () -> x.write(0, MIN, 9));
        });
        x.tray(0, 0, 0);
        Check.calm("42", x, () -> Check.place("42: of none", () -> x.write(0, 0, 9)));
    }

    // 42: "IllegalStateException: it is MISSING"
    private static void writeMissing() {
        NoonWords x = rows();
        Check.calm("42", x, () -> {
            Check.state("42: it is", () -> x.write(3, 0, 9));
            Check.state("42: told ahead of the place", () -> x.write(3, -1, 9));
        });
    }

    private static void readPlaces() {
        NoonWords x = rows();
        Check.is("43: the first", 1, x.read(0, 0));
        Check.is("43: the last", 5, x.read(0, 4));
        Check.place("43: -1", () -> x.read(0, -1));
        Check.place("43: 5", () -> x.read(0, 5));
        Check.place("43: far above", () -> x.read(0, MAX));
        Check.place("43: far below", () -> x.read(0, MIN));
    }

    private static void readMissing() {
        NoonWords x = rows();
        Check.state("43: it is", () -> x.read(3, 0));
        Check.state("43: told ahead of the place", () -> x.read(3, 60));
    }

    // Trays: each of its own
    private static void rowsApart() {
        NoonWords x = House.inn(1);
        for (int k = 0; k < 4; k++) {
            x.tray(k, 0, 60);
            x.write(k, 0, k + 1);
            x.write(k, 59, k + 11);
        }
        for (int k = 0; k < 4; k++) {
            Check.is("43: the first of its own", k + 1, x.read(k, 0));
            Check.is("43: the last of its own", k + 11, x.read(k, 59));
        }
        x.tray(1, 0, 60);
        Check.is("43: the one ahead stays", 11, x.read(0, 59));
        Check.is("43: the one behind stays", 3, x.read(2, 0));
    }

    // 44: "So many numbers": none, too
    private static void pourNone() {
        NoonWords x = rows();
        x.pour(0, 0, 1, 0, 0);
        x.pour(0, 5, 1, 3, 0);
        x.pour(0, 5, 0, 5, 0);
        isRow("none", x, 0, 1, 2, 3, 4, 5);
        isRow("none", x, 1, 0, 0, 0);
        Check.calm("44", x, () -> {
            Check.place("44: none from behind the end", () -> poured(x, 0, 6, 1, 0, 0));
            Check.place("44: none to behind the end", () -> poured(x, 0, 0, 1, 4, 0));
        });
        x.tray(3, 2, 0);
        x.pour(3, 0, 3, 0, 0);
        x.pour(3, 0, 1, 3, 0);
        Check.place("44: one of none", () -> poured(x, 3, 0, 1, 0, 1));
    }

    private static void pourAll() {
        NoonWords x = rows();
        x.pour(0, 2, 1, 0, 3);
        isRow("all it takes", x, 1, 3, 4, 5);
        isRow("as they were", x, 0, 1, 2, 3, 4, 5);
        x.pour(1, 0, 0, 0, 3);
        isRow("all it has", x, 0, 3, 4, 5, 4, 5);
        x.tray(0, 0, 60);
        x.tray(1, 0, 60);
        for (int k = 0; k < 60; k++) {
            x.write(0, k, k - 30);
        }
        x.pour(0, 0, 1, 0, 60);
        for (int k = 0; k < 60; k++) {
            Check.is("44: all of 60", k - 30, x.read(1, k));
        }
    }

    // 44: "come to another one's (or its own) place on, as they were"
    private static void pourWithinOne() {
        NoonWords x = rows();
        x.pour(0, 0, 0, 1, 4);
        isRow("a place on", x, 0, 1, 1, 2, 3, 4);
        NoonWords y = rows();
        y.pour(0, 1, 0, 0, 4);
        isRow("a place back", y, 0, 2, 3, 4, 5, 5);
        NoonWords z = rows();
        z.pour(0, 0, 0, 2, 3);
        isRow("two places on", z, 0, 1, 2, 1, 2, 3);
        z.pour(0, 0, 0, 0, 5);
        isRow("where they are", z, 0, 1, 2, 1, 2, 3);
    }

    // 44: "IndexOutOfBoundsException: places, or many, below 0"
    private static void pourPlaces() {
        NoonWords x = rows();
        Check.calm("44", x, () -> {
            Check.place("44: from -1", () -> poured(x, 0, -1, 1, 0, 1));
            Check.place("44: to -1", () -> poured(x, 0, 0, 1, -1, 1));
            Check.place("44: -1 of them", () -> poured(x, 0, 0, 1, 0, -1));
            Check.place("44: -1 of them, from behind", () -> poured(x, 0, 5, 1, 3, -1));
            Check.place("44: from far below", () -> poured(x, 0, MIN, 1, 0, 1));
            Check.place("44: to far below", () -> poured(x, 0, 0, 1, MIN, 1));
            Check.place("44: far below of them", () -> poured(x, 0, 0, 1, 0, MIN));
            Check.place("44: none from -1", () -> poured(x, 0, -1, 1, 0, 0));
        });
    }

    // 44: "or not all there"
    private static void pourNotAllThere() {
        NoonWords x = rows();
        Check.calm("44", x, () -> {
            Check.place("44: one behind the end", () -> poured(x, 0, 3, 1, 0, 3));
            Check.place("44: one to behind the end", () -> poured(x, 0, 0, 1, 1, 3));
            Check.place("44: from the end", () -> poured(x, 0, 5, 1, 0, 1));
            Check.place("44: to the end", () -> poured(x, 0, 0, 1, 3, 1));
            Check.place("44: more than there are", () -> poured(x, 0, 0, 0, 0, 6));
            Check.place("44: far more", () -> poured(x, 0, 1, 1, 1, MAX));
            Check.place("44: from far away", () -> poured(x, 0, MAX, 1, 0, 1));
            Check.place("44: to far away", () -> poured(x, 0, 0, 1, MAX, 1));
            Check.place("44: far more from far away", () -> poured(x, 0, MAX, 1, MAX, MAX));
        });
    }

    // 44: "IllegalStateException: one is MISSING"
    private static void pourMissing() {
        NoonWords x = rows();
        Check.calm("44", x, () -> {
            Check.state("44: from one", () -> poured(x, 3, 0, 1, 0, 0));
            Check.state("44: to one", () -> poured(x, 0, 0, 3, 0, 0));
            Check.state("44: both", () -> poured(x, 3, 0, 3, 0, 0));
            Check.state("44: told ahead of places", () -> poured(x, 3, -1, 1, -1, -1));
        });
    }

    // 44: "or they are of unlike sorts"
    private static void pourUnlikeSorts() {
        NoonWords x = rows();
        Check.calm("44", x, () -> {
            Check.state("44: from 32 bits to 64", () -> poured(x, 0, 0, 2, 0, 1));
            Check.state("44: from 64 bits to 32", () -> poured(x, 2, 0, 0, 0, 1));
            Check.state("44: even none", () -> poured(x, 2, 0, 0, 0, 0));
            Check.state("44: told ahead of places", () -> poured(x, 2, 9, 0, 9, 9));
        });
        x.tray(3, 1, 2);
        x.tray(2, 0, 2);
        Check.state("44: from 8 bits to 16", () -> poured(x, 2, 0, 3, 0, 1));
    }

    private static void pourNoSuchTray() {
        NoonWords x = rows();
        Check.calm("44", x, () -> {
            Check.none("44: from -1", () -> poured(x, -1, 0, 1, 0, 1));
            Check.none("44: from 4", () -> poured(x, 4, 0, 1, 0, 1));
            Check.none("44: to -1", () -> poured(x, 0, 0, -1, 0, 1));
            Check.none("44: to 4", () -> poured(x, 0, 0, 4, 0, 1));
            Check.none("44: told ahead of one that is missing", () -> poured(x, 3, -1, 4, 0, 1));
        });
    }

    /** Broker 0 has 5 of coin 0 and 6 of coin 3, and owes broker 1 7 of coin 2; tray 0 has so many of its book. */
    private static NoonWords booked(int sort, int many) {
        NoonWords x = House.inn(2);
        x.put(0, 0, 5);
        x.put(0, 3, 6);
        House.owe(x, 0, 1, 2, 7);
        x.tray(0, sort, many);
        long[] book = {5, 0, 0, 6, 0, 0, 0, 0, 0, 0, 7, 0};
        for (int k = 0; k < many && k < 12; k++) {
            x.write(0, k, book[k]);
        }
        return x;
    }

    // 45: "-2 if the TRAY is MISSING"
    private static void bookMissing() {
        NoonWords x = booked(3, 12);
        Check.is("45: it isn't", -1, x.book(0, 0));
        for (int tray = 1; tray < 4; tray++) {
            Check.is("45: it is", -2, x.book(0, tray));
        }
    }

    // 45: "-3 less how many numbers it has, if it ends ahead of that and is right so far"
    private static void bookEnds() {
        for (int many = 0; many < 12; many++) {
            Check.is("45: it ends with " + many, -3 - many, booked(3, many).book(0, 0));
        }
        Check.is("45: all is there", -1, booked(3, 12).book(0, 0));
        NoonWords x = booked(3, 11);
        x.write(0, 10, 8);
        Check.is("45: it ends, but isn't right", 10, x.book(0, 0));
        Check.is("45: a new one is right for an empty drawer", -7, emptyBook(4));
    }

    private static int emptyBook(int many) {
        NoonWords x = House.inn(1);
        x.tray(0, 0, many);
        return x.book(0, 0);
    }

    // 45: "the first place that differs"
    private static void bookDiffers() {
        for (int k = 0; k < 12; k++) {
            NoonWords x = booked(3, 12);
            x.write(0, k, 99);
            Check.is("45: at " + k, k, x.book(0, 0));
            x.write(0, 11, 99);
            Check.is("45: the first of two", k, x.book(0, 0));
        }
        NoonWords y = booked(3, 12);
        y.put(0, 1, 1);
        Check.is("45: the drawer changed", 1, y.book(0, 0));
        y.put(0, 1, -1);
        House.owe(y, 1, 0, 3, 1);
        Check.is("45: a net changed", 11, y.book(0, 0));
        y.write(0, 11, -1);
        Check.is("45: below 0", -1, y.book(0, 0));
    }

    // 45: "-1 if all is there and right (what is behind it isn't asked)"
    private static void bookBehindIt() {
        NoonWords x = booked(3, 13);
        x.write(0, 12, 99);
        Check.is("45: one behind it", -1, x.book(0, 0));
        x.broker(0, 0);
        Check.is("45: by a broker more it is asked", 12, x.book(0, 0));
        x.write(0, 12, 0);
        Check.is("45: by a broker more it ends", -16, x.book(0, 0));
        Check.is("45: of none behind it", -1, booked(3, 60).book(0, 0));
    }

    // 45: held against numbers as they are in the TRAY
    private static void bookOfNarrowNumbers() {
        for (int sort = 0; sort < 4; sort++) {
            Check.is("45: of sort " + sort, -1, booked(sort, 12).book(0, 0));
        }
        NoonWords x = booked(0, 12);
        x.put(0, 0, 122);
        x.write(0, 0, 127);
        Check.is("45: the most of 8 bits", -1, x.book(0, 0));
        x.put(0, 0, 1);
        x.write(0, 0, 128);
        Check.is("45: what can't be there differs", 0, x.book(0, 0));
    }

    // Trays: "then for each BROKER there is, by number, NET of it and that one by COINS (of itself 0)"
    private static void bookOfTwelve() {
        NoonWords x = House.inn(12);
        for (int coin = 0; coin < 4; coin++) {
            x.put(11, coin, 100 + coin);
            for (int k = 0; k < 11; k++) {
                House.owe(x, k % 2 == 0 ? k : 11, k % 2 == 0 ? 11 : k, coin, 10 * k + coin + 1);
            }
        }
        x.tray(0, 2, 52);
        for (int coin = 0; coin < 4; coin++) {
            x.write(0, coin, 100 + coin);
            for (int k = 0; k < 11; k++) {
                x.write(0, 4 + 4 * k + coin, (k % 2 == 0 ? -1 : 1) * (10 * k + coin + 1));
            }
        }
        Check.is("45: all of 52", -1, x.book(11, 0));
        for (int coin = 0; coin < 4; coin++) {
            x.write(0, 48 + coin, 1);
            Check.is("45: of itself 0", 48 + coin, x.book(11, 0));
            x.write(0, 48 + coin, 0);
        }
        x.tray(1, 2, 51);
        x.pour(0, 0, 1, 0, 51);
        Check.is("45: one is missing", -54, x.book(11, 1));
        Check.is("45: of another one", 0, x.book(10, 0));
    }

    private static void bookArguments() {
        NoonWords x = booked(3, 12);
        Check.none("45: a broker below 0", () -> x.book(-1, 0));
        Check.none("45: the next broker", () -> x.book(2, 0));
        Check.none("45: a tray below 0", () -> x.book(0, -1));
        Check.none("45: the next tray", () -> x.book(0, 4));
        Check.none("45: told ahead of missing", () -> x.book(2, 3));
    }

    // 46: each counts what it says
    private static void counts() {
        NoonWords x = new NoonWords();
        int[] due = new int[10];
        for (int step = 0; step < 10; step++) {
            switch (step) {
                case 0: x.go(100); due[0] = 100; break;
                case 1: x.town(); due[1] = 1; break;
                case 2: x.broker(0, 0); x.broker(0, 1); due[2] = 2; break;
                case 3: x.rate(0, 1, 5); due[3] = 1; break;
                case 4: x.text(0, 1, 0); due[4] = 1; break;
                case 5: x.tell(0, 1, 0, 5, 7); due[5] = 1; break;
                case 6: House.owe(x, 0, 1, 0, 0); due[6] = 1; break;
                case 7: x.expect(0, 0, 100, 0, 0); due[7] = 1; break;
                case 8: x.feed(0, 0, 0, 0, 0); due[9] = 20; break;
                default: x.falls(1); due[8] = 1; break;
            }
            for (int what = 0; what < 10; what++) {
                Check.is("46: behind step " + step + ", " + what, due[what], x.count(what));
            }
        }
    }

    // 46: "NONE for others"
    private static void countsOthers() {
        NoonWords x = House.inn(2);
        int[] others = {-1, -2, 10, 11, MAX, MIN};
        for (int what : others) {
            Check.is("46: " + what, -1, x.count(what));
        }
    }
}
