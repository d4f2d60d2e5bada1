import java.util.Arrays;

/** Houses for the tests, and what can be seen of one. */
final class House {
    private House() {
    }

    /** So many towns without roads. */
    static NoonWords towns(int many) {
        NoonWords x = new NoonWords();
        for (int k = 0; k < many; k++) {
            x.town();
        }
        return x;
    }

    /** So many towns, each three days from the next one, and a broker in each, of kins 0, 1 .. */
    static NoonWords row(int many) {
        NoonWords x = towns(many);
        for (int k = 0; k + 1 < many; k++) {
            x.road(k, k + 1, 3);
        }
        for (int k = 0; k < many; k++) {
            x.broker(k, k % 6);
        }
        return x;
    }

    /** One town with so many brokers, of kins 0, 1 .. 5, 0 .. */
    static NoonWords inn(int many) {
        NoonWords x = towns(1);
        for (int k = 0; k < many; k++) {
            x.broker(0, k % 6);
        }
        return x;
    }

    /** a owes b so many (0 to 1,000) of a coin more. */
    static void owe(NoonWords x, int a, int b, int coin, int many) {
        x.goods(b, a, coin, 0, 1, many);
    }

    /** So many entries of 0. */
    static void fill(NoonWords x, int a, int b, int entries) {
        for (int k = 0; k < entries; k++) {
            x.goods(a, b, 3, 0, 1, 0);
        }
    }

    static void days(NoonWords x, int many) {
        for (int left = many; left > 0; left -= 100) {
            x.go(Math.min(100, left));
        }
    }

    /** What a refused call may not change. An object is good for 512 calls, so of a full house less is asked. */
    static long[] seen(NoonWords x) {
        Row row = new Row();
        for (int what = 0; what < 10; what++) {
            row.add(x.count(what));
        }
        if (x.count(6) > 300) {
            seeFull(x, row);
            return Arrays.copyOf(row.cells, row.many);
        }
        row.add(x.fault(0));
        row.add(x.fault(1));
        seeTowns(x, row);
        seeBrokers(x, row);
        for (int word = Math.max(0, x.count(5) - 4); word < x.count(5); word++) {
            for (int what = 4; what < 9; what++) {
                row.add(x.word(word, what));
            }
        }
        for (int tray = 0; tray < 4; tray++) {
            seeTray(x, tray, row);
        }
        return Arrays.copyOf(row.cells, row.many);
    }

    private static void seeFull(NoonWords x, Row row) {
        for (int a = 0; a < x.count(2); a++) {
            row.add(x.drawer(a, 0));
        }
        int last = x.count(5) - 1;
        if (last >= 0) {
            row.add(x.word(last, 5));
            row.add(x.word(last, 7));
        }
    }

    private static void seeTowns(NoonWords x, Row row) {
        int towns = x.count(1);
        for (int a = 0; a < towns; a++) {
            row.add(x.lag(0, a));
            row.add(x.rateAt(a, 1, 999));
            row.add(x.lines(a, 999, 0));
        }
    }

    private static void seeBrokers(NoonWords x, Row row) {
        int brokers = x.count(2);
        for (int a = 0; a < brokers; a++) {
            row.add(x.fell(a));
            row.add(x.dry(a, 0, true));
            for (int coin = 0; coin < 3; coin++) {
                row.add(x.drawer(a, coin));
            }
            for (int b = 0; b < a && brokers < 6; b++) {
                row.add(x.owes(a, b, 0));
                row.add(x.owes(a, b, 1));
                row.add(x.hidden(a, b));
            }
        }
    }

    private static void seeTray(NoonWords x, int tray, Row row) {
        try {
            for (int place = 0; place < 12; place++) {
                row.add(x.read(tray, place));
            }
        } catch (IllegalStateException e) {
            row.add(-1);
        } catch (IndexOutOfBoundsException e) {
            row.add(-2);
        }
    }

    private static final class Row {
        final long[] cells = new long[512];
        int many;

        void add(long cell) {
            cells[many] = cell;
            many++;
        }
    }
}
