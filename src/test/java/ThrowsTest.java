import java.util.function.LongSupplier;

/**
 * "Of several throws of a call that one comes that is told first." For each call that has more than one: wrong
 * arguments of all its throws at once, then of all but the first told, and so on. "A call that throws changes nothing."
 */
public final class ThrowsTest {
    public static void main(String[] args) {
        daysAndTowns();
        brokers();
        custom();
        words();
        debts();
        clearing();
        coming();
        falls();
        trays();
        Check.end();
    }

    /** None first, then the argument, then the state. */
    private static void ordered(String what, LongSupplier none, LongSupplier argument, LongSupplier state) {
        if (none != null) {
            Check.none(what + ": no such one, told first", none);
        }
        if (argument != null) {
            Check.argument(what + ": a wrong argument, told ahead of the state", argument);
        }
        if (state != null) {
            Check.state(what + ": a wrong state alone", state);
        }
    }

    private static NoonWords house() {
        NoonWords x = House.row(3);
        x.town();
        x.broker(3, 0);
        for (int k = 0; k < 4; k++) {
            x.put(k, 0, 10);
        }
        House.owe(x, 0, 1, 0, 5);
        x.falls(2);
        return x;
    }

    private static void daysAndTowns() {
        NoonWords x = house();
        House.days(x, 950);
        Check.calm("go to rateAt", x, () -> {
            ordered("2 go", null, () -> x.go(101), () -> x.go(50));
            ordered("4 road", () -> x.road(0, 4, 10), () -> x.road(0, 0, 10), null);
            ordered("6 rate", () -> x.rate(4, 0, 0), () -> x.rate(0, 0, 0), null);
            ordered("7 rateAt", () -> x.rateAt(4, 4, 1000), () -> x.rateAt(0, 4, 1000), null);
        });
    }

    private static void brokers() {
        NoonWords x = house();
        Check.calm("broker to drawer", x, () -> {
            ordered("8 broker", () -> x.broker(4, 6), () -> x.broker(0, 6), null);
            ordered("9 put, fallen", () -> x.put(4, 4, -99), () -> x.put(2, 4, -99), () -> x.put(2, 0, -99));
            ordered("9 put, below 0", () -> x.put(4, 4, -99), () -> x.put(0, 4, -99), () -> x.put(0, 0, -99));
            ordered("10 drawer", () -> x.drawer(4, 4), () -> x.drawer(0, 4), null);
        });
    }

    private static void custom() {
        NoonWords x = house();
        Check.type(x, "ban;");
        Check.calm("text to said", x, () -> {
            ordered("12 text", null, () -> x.text(21, 0, 1000), null);
            ordered("14 lines", () -> x.lines(4, 1000, 2), () -> x.lines(0, 1000, 2), null);
            ordered("15 said", () -> x.said(0, 4, 0, 4, 9), () -> x.said(0, 0, 0, 4, 9), null);
        });
        Check.is("12: the tape is as it was", 1, x.text(4, 1, 0));
    }

    private static void words() {
        NoonWords x = house();
        x.tell(0, 1, 0, 5, 7);
        x.twin(0, x.broker(1, 1));
        Check.calm("tell to word", x, () -> {
            ordered("16 tell", () -> x.tell(0, 9, 4, 0, -1), () -> x.tell(0, 2, 4, 0, -1), () -> x.tell(0, 2, 0, 1, 0));
            ordered("16 tell without a lag", () -> x.tell(9, 3, 0, 0, 0), () -> x.tell(0, 3, 0, 0, 0),
                    () -> x.tell(0, 3, 0, 1, 0));
            ordered("17 pay", () -> x.pay(9, 7), null, () -> x.pay(0, 7));
            ordered("18 back", () -> x.back(9), null, () -> x.back(1));
            ordered("19 twin", () -> x.twin(0, 9), null, () -> x.twin(0, 0));
            ordered("20 word", () -> x.word(9, 10), () -> x.word(0, 10), null);
        });
    }

    private static void debts() {
        NoonWords x = house();
        Check.calm("owes to entry", x, () -> {
            ordered("21 owes", () -> x.owes(0, 4, 4), () -> x.owes(0, 1, 4), null);
            ordered("22 heard", () -> x.heard(3, 0, 4, 4, 1000), () -> x.heard(3, 0, 1, 4, 1000),
                    () -> x.heard(3, 0, 1, 0, 0));
            ordered("24 settle", () -> x.settle(0, 4, 4, 0), () -> x.settle(0, 0, 4, 0), () -> x.settle(0, 1, 0, 99));
            ordered("24 settle, fallen", () -> x.settle(2, 4, 0, 1), () -> x.settle(2, 2, 0, 1),
                    () -> x.settle(2, 1, 0, 1));
            ordered("25 market", () -> x.market(4, 4, -1), () -> x.market(0, 4, -1), null);
            ordered("26 goods", () -> x.goods(2, 4, 4, 4, 0, -1), () -> x.goods(2, 2, 4, 4, 0, -1),
                    () -> x.goods(2, 0, 0, 0, 1, 1));
            ordered("32 entry", () -> x.entry(9, 7), () -> x.entry(0, 7), null);
        });
    }

    private static void clearing() {
        NoonWords x = House.inn(3);
        for (int k = 0; k < 3; k++) {
            House.owe(x, k, (k + 1) % 3, 0, 5);
        }
        House.fill(x, 0, 1, 395);
        Check.calm("ring to step", x, () -> {
            ordered("28 ring", null, () -> x.ring(4, 2, 5), null);
            ordered("29 cross", null, () -> x.cross(4, 2), () -> x.cross(0, 3));
            ordered("30 fewest", null, () -> x.fewest(4, 0), null);
            ordered("31 step", null, () -> x.step(4, 0, -1, 3), null);
        });
        Check.is("28: the ring is there yet", 5, x.ring(0, 3, -1));
    }

    private static void coming() {
        NoonWords x = house();
        x.go(1);
        Check.calm("expect to plan", x, () -> {
            ordered("33 expect", () -> x.expect(4, 4, 0, 1, 0), () -> x.expect(0, 4, 0, 1, 0), null);
            ordered("34 dry", () -> x.dry(4, 4, true), () -> x.dry(0, 4, true), null);
            ordered("35 plan", null, () -> x.plan(4, 0, 0, 0, -2), null);
        });
    }

    private static void falls() {
        NoonWords x = house();
        Check.calm("falls to run", x, () -> {
            ordered("36 falls", () -> x.falls(4), null, () -> x.falls(2));
            ordered("38 ruin", () -> x.ruin(4, 2), () -> x.ruin(0, 2), null);
            ordered("40 run", () -> x.run(4, 101, 2), () -> x.run(0, 101, 2), null);
        });
    }

    private static void trays() {
        NoonWords x = house();
        x.tray(0, 0, 3);
        x.tray(1, 1, 3);
        Check.calm("tray to book", x, () -> {
            ordered("41 tray", () -> traying(x, 4, 4, 61), () -> traying(x, 0, 4, 61), null);
            ordered("42 write", () -> x.write(4, 9, 0), null, () -> x.write(2, 9, 0));
            Check.place("42 write: a wrong place alone", () -> x.write(0, 9, 0));
            ordered("43 read", () -> x.read(4, 9), null, () -> x.read(2, 9));
            Check.place("43 read: a wrong place alone", () -> x.read(0, 9));
            ordered("44 pour", () -> pouring(x, 2, 9, 4), null, () -> pouring(x, 2, 9, 0));
            ordered("44 pour, unlike", () -> pouring(x, 0, 9, 4), null, () -> pouring(x, 0, 9, 1));
            Check.place("44 pour: a wrong place alone", () -> pouring(x, 0, 9, 0));
        });
    }

    private static long traying(NoonWords x, int tray, int sort, int many) {
        x.tray(tray, sort, many);
        return 0;
    }

    private static long pouring(NoonWords x, int from, int place, int to) {
        x.pour(from, place, to, 0, 1);
        return 0;
    }
}
