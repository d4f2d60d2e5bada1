/** Promises 33 to 35, sentence by sentence: what comes, dry drawers and plans at their edges. */
public final class ComingEdgesTest {
    private static final int MIN = Integer.MIN_VALUE;
    private static final int MAX = Integer.MAX_VALUE;

    public static void main(String[] args) {
        expectLowAndHigh();
        expectDay();
        expectAtMost80();
        expectArguments();
        dryBelow0();
        dryFromNowOn();
        dryUpTo999();
        dryOfThatBrokerAndCoin();
        dryByLowOrHigh();
        dryWordsReady();
        dryWordsStop();
        dryWordsPaid();
        dryOf100Words();
        dryWordsOfOthers();
        dryArguments();
        planSoMany();
        planBrokers();
        planTwoAlike();
        planNets();
        planWeeks();
        planWhat();
        planHigherBits();
        planNone();
        planRightAt0();
        planRightByTheDay();
        planFromNow();
        planBehind999();
        planEachWeek();
        planEachBroker();
        planWithThatWeek();
        planLatestWeek();
        planLeastSum();
        planLesserWeekFirst();
        planSix();
        planOf80();
        Check.end();
    }

    // Expected: "LOW to HIGH come in (-1,000,000 to 1,000,000, LOW not above HIGH)"
    private static void expectLowAndHigh() {
        NoonWords x = House.inn(2);
        Check.is("33: the least to the most", 0, x.expect(0, 0, 0, -1000000, 1000000));
        Check.is("33: both the least", 1, x.expect(0, 0, 0, -1000000, -1000000));
        Check.is("33: both the most", 2, x.expect(0, 0, 0, 1000000, 1000000));
        Check.is("33: both 0", 3, x.expect(0, 0, 0, 0, 0));
        Check.calm("33", x, () -> {
            Check.argument("33: low is too low", () -> x.expect(0, 0, 0, -1000001, 0));
            Check.argument("33: high is too high", () -> x.expect(0, 0, 0, 0, 1000001));
            Check.argument("33: low above high", () -> x.expect(0, 0, 0, 1, 0));
            Check.argument("33: both are too low", () -> x.expect(0, 0, 0, -1000001, -1000001));
            Check.argument("33: both are too high", () -> x.expect(0, 0, 0, 1000001, 1000001));
            Check.argument("33: far away", () -> x.expect(0, 0, 0, MIN, MAX));
            Check.argument("33: the other way", () -> x.expect(0, 0, 0, MAX, MIN));
        });
    }

    // Expected: "on a DAY (NOW or later as it is told)"; 33: "the DAY (below NOW, too)"
    private static void expectDay() {
        NoonWords x = House.inn(2);
        x.go(10);
        Check.is("33: now", 0, x.expect(0, 0, 10, 0, 0));
        Check.is("33: the last day", 1, x.expect(0, 0, 999, 0, 0));
        Check.calm("33", x, () -> {
            Check.argument("33: yesterday", () -> x.expect(0, 0, 9, 0, 0));
            Check.argument("33: day 0", () -> x.expect(0, 0, 0, 0, 0));
            Check.argument("33: day -1", () -> x.expect(0, 0, -1, 0, 0));
            Check.argument("33: day 1000", () -> x.expect(0, 0, 1000, 0, 0));
        });
        Check.is("33: day 0 on day 0", 0, House.inn(1).expect(0, 0, 0, 0, 0));
    }

    // 33: "how many were ahead of it; NONE if there are 80"
    private static void expectAtMost80() {
        NoonWords x = House.inn(2);
        for (int k = 0; k < 79; k++) {
            x.expect(0, 0, 0, 1, 1);
        }
        Check.is("33: the last", 79, x.expect(0, 0, 0, -79, -79));
        Check.is("34: all of them", -1, x.dry(0, 0, false));
        Check.is("33: none", -1, x.expect(0, 0, 0, -1, -1));
        Check.is("33: none of another one", -1, x.expect(1, 1, 999, -1, -1));
        Check.is("33: 80", 80, x.count(7));
        Check.is("34: nothing more comes", -1, x.dry(0, 0, false));
        Check.is("34: nothing more comes", -1, x.dry(1, 1, true));
    }

    private static void expectArguments() {
        NoonWords x = House.inn(2);
        Check.is("33: the greatest coin", 0, x.expect(1, 3, 0, 0, 0));
        Check.calm("33", x, () -> {
            Check.argument("33: coin -1", () -> x.expect(0, -1, 0, 0, 0));
            Check.argument("33: coin 4", () -> x.expect(0, 4, 0, 0, 0));
            Check.none("33: below 0", () -> x.expect(-1, 0, 0, 0, 0));
            Check.none("33: the next one", () -> x.expect(2, 0, 0, 0, 0));
            Check.none("33: told first", () -> x.expect(2, 4, -1, 1, 0));
        });
        x.falls(0);
        Check.is("33: of one that has fallen", 1, x.expect(0, 0, 0, 0, 0));
    }

    // Expected: "is below 0"
    private static void dryBelow0() {
        NoonWords x = House.inn(1);
        Check.is("34: an empty drawer is not dry", -1, x.dry(0, 0, false));
        Check.is("34: surely not", -1, x.dry(0, 0, true));
        x.put(0, 0, 10);
        x.expect(0, 0, 5, -10, -10);
        Check.is("34: just 0", -1, x.dry(0, 0, false));
        x.expect(0, 0, 6, -1, -1);
        Check.is("34: just below 0", 6, x.dry(0, 0, false));
        Check.is("34: surely", 6, x.dry(0, 0, true));
        x.expect(0, 0, 6, 1, 1);
        Check.is("34: all of one day together", -1, x.dry(0, 0, false));
    }

    // Expected: "the first DAY from NOW on", "from NOW to that DAY"
    private static void dryFromNowOn() {
        NoonWords x = House.inn(1);
        x.expect(0, 0, 5, -1, -1);
        x.go(5);
        Check.is("34: that day is now", 5, x.dry(0, 0, false));
        Check.is("34: that day is now", 5, x.dry(0, 0, true));
        x.go(1);
        Check.is("34: what is over isn't asked", -1, x.dry(0, 0, false));
        Check.is("34: what is over isn't asked", -1, x.dry(0, 0, true));
        x.expect(0, 0, 9, -1, -1);
        x.expect(0, 0, 8, 1, 1);
        Check.is("34: behind it", -1, x.dry(0, 0, false));
        x.expect(0, 0, 7, -1, -1);
        Check.is("34: the first of more days", 7, x.dry(0, 0, false));
    }

    // 34: "NONE if on none up to 999"
    private static void dryUpTo999() {
        NoonWords x = House.inn(2);
        x.expect(0, 0, 999, -1, 0);
        Check.is("34: the last day", 999, x.dry(0, 0, false));
        Check.is("34: surely on none", -1, x.dry(0, 0, true));
        House.days(x, 999);
        Check.is("34: the last day is now", 999, x.dry(0, 0, false));
        Check.is("34: the other one on none", -1, x.dry(1, 0, false));
    }

    // Expected: "of a BROKER in a COIN"
    private static void dryOfThatBrokerAndCoin() {
        NoonWords x = House.inn(2);
        x.put(0, 0, 5);
        x.put(1, 1, 5);
        x.expect(0, 0, 1, -6, -6);
        x.expect(1, 1, 2, -6, -6);
        x.expect(0, 1, 3, 9, 9);
        x.expect(1, 0, 3, 9, 9);
        Check.is("34: its own", 1, x.dry(0, 0, false));
        Check.is("34: its own", 2, x.dry(1, 1, false));
        Check.is("34: another coin", -1, x.dry(0, 1, false));
        Check.is("34: another broker", -1, x.dry(1, 0, false));
    }

    // Expected: "LOW of all that is EXPECTED", "HIGH of these"
    private static void dryByLowOrHigh() {
        NoonWords x = House.inn(1);
        x.expect(0, 0, 3, -1, 0);
        Check.is("34: by low", 3, x.dry(0, 0, false));
        Check.is("34: by high not", -1, x.dry(0, 0, true));
        x.expect(0, 0, 4, -1, -1);
        Check.is("34: by low the first", 3, x.dry(0, 0, false));
        Check.is("34: by high the second", 4, x.dry(0, 0, true));
        NoonWords y = House.inn(1);
        for (int k = 0; k < 80; k++) {
            y.expect(0, 0, 3, -1000000, k == 0 ? -1000000 : 0);
        }
        y.put(0, 0, 1000000);
        Check.is("34: by low of 80", 3, y.dry(0, 0, false));
        Check.is("34: by high just 0", -1, y.dry(0, 0, true));
    }

    // Expected: "WORDS .. whose READY isn't above that DAY"
    private static void dryWordsReady() {
        NoonWords x = House.row(2);
        x.put(1, 0, 9);
        x.tell(0, 1, 0, 10, 7);
        Check.is("34: on the day it is ready", 3, x.dry(1, 0, false));
        x.go(3);
        Check.is("34: now", 3, x.dry(1, 0, false));
        x.go(1);
        Check.is("34: it was ready already", 4, x.dry(1, 0, false));
        Check.is("34: surely without words", -1, x.dry(1, 0, true));
        x.put(1, 0, 1);
        Check.is("34: just 0", -1, x.dry(1, 0, false));
        NoonWords y = House.row(2);
        House.days(y, 996);
        y.tell(0, 1, 0, 10, 7);
        Check.is("34: ready on the last day", 999, y.dry(1, 0, false));
        y.go(1);
        Check.is("34: still", 999, y.dry(1, 0, false));
        NoonWords z = House.row(2);
        House.days(z, 997);
        z.tell(0, 1, 0, 10, 7);
        Check.is("34: ready behind the last day", -1, z.dry(1, 0, false));
    }

    // Expected: "whose STOP is above NOW and above READY"
    private static void dryWordsStop() {
        NoonWords x = House.row(2);
        x.tell(0, 1, 0, 10, 7);
        x.go(62);
        Check.is("34: stop tomorrow", 62, x.dry(1, 0, false));
        x.go(1);
        Check.is("34: stop is now", -1, x.dry(1, 0, false));
        NoonWords y = House.row(2);
        y.tell(0, 1, 0, 10, 7);
        y.back(0);
        Check.is("20: stop is the day it is ready", 3, y.word(0, 5));
        Check.is("34: not above ready", -1, y.dry(1, 0, false));
        NoonWords z = House.row(2);
        z.tell(0, 1, 0, 10, 7);
        z.go(1);
        z.back(0);
        Check.is("34: just above ready, taken back", 3, z.dry(1, 0, false));
    }

    // Expected: "WORDS which aren't PAID"
    private static void dryWordsPaid() {
        NoonWords x = House.row(2);
        x.put(1, 0, 19);
        x.tell(0, 1, 0, 10, 7);
        x.tell(0, 1, 0, 10, 7);
        Check.is("34: both", 3, x.dry(1, 0, false));
        x.go(3);
        x.pay(0, 7);
        Check.is("34: one of them", 3, x.dry(1, 0, false));
        x.put(1, 0, 1);
        Check.is("34: one of them, just 0", -1, x.dry(1, 0, false));
        x.pay(1, 7);
        Check.is("34: none", -1, x.dry(1, 0, false));
    }

    // Expected: "all of that COIN that it is told to pay by WORDS": by 100 of them
    private static void dryOf100Words() {
        NoonWords x = House.row(2);
        for (int k = 0; k < 100; k++) {
            x.tell(0, 1, 0, k == 0 ? 50 : k == 99 ? 7 : 1, 7);
        }
        x.put(1, 0, 50 + 98 + 6);
        Check.is("34: one less than all", 3, x.dry(1, 0, false));
        x.put(1, 0, 1);
        Check.is("34: as much as all", -1, x.dry(1, 0, false));
    }

    // Expected: "all of that COIN that it is told to pay"
    private static void dryWordsOfOthers() {
        NoonWords x = House.row(3);
        x.tell(1, 2, 0, 10, 7);
        x.tell(0, 1, 1, 10, 7);
        x.put(1, 0, -10);
        Check.is("34: neither another payer nor another coin", -1, x.dry(1, 0, false));
        Check.is("34: that coin", 3, x.dry(1, 1, false));
        Check.is("34: that payer", 3, x.dry(2, 0, false));
        x.twin(1, 2);
        Check.is("34: a twin, too", 6, x.dry(2, 1, false));
    }

    private static void dryArguments() {
        NoonWords x = House.inn(2);
        Check.is("34: the greatest coin", -1, x.dry(1, 3, false));
        Check.argument("34: coin -1", () -> x.dry(0, -1, false));
        Check.argument("34: coin 4", () -> x.dry(0, 4, true));
        Check.none("34: below 0", () -> x.dry(-1, 0, false));
        Check.none("34: the next one", () -> x.dry(2, 0, true));
        Check.none("34: told first", () -> x.dry(2, 4, true));
    }

    private static long debts(int... pairs) {
        long debts = 0;
        for (int k = 0; k < pairs.length; k += 2) {
            debts |= (long) (pairs[k] | pairs[k + 1] << 4) << 4 * k;
        }
        return debts;
    }

    private static void isPlan(String what, NoonWords x, long debts, int many, int weeks, int... due) {
        for (int k = -1; k < many; k++) {
            Check.is("35: " + what + ", " + k, due.length == 0 ? -1 : due[k + 1], x.plan(0, debts, many, weeks, k));
        }
    }

    /** Broker 0 owes each other one so many, and has so many. */
    private static NoonWords debtor(int has, int... owes) {
        NoonWords x = House.inn(owes.length + 1);
        for (int k = 0; k < owes.length; k++) {
            House.owe(x, 0, k + 1, 0, owes[k]);
        }
        x.put(0, 0, has);
        return x;
    }

    // Expected: "1 to 6 DEBTS"; 35: "not so many"
    private static void planSoMany() {
        NoonWords x = debtor(100, 1, 2, 3, 4, 5, 6, 7);
        long all = debts(0, 1, 0, 2, 0, 3, 0, 4, 0, 5, 0, 6, 0, 7);
        isPlan("the least", x, all, 1, 1, 1, 1);
        isPlan("the most", x, all, 6, 1, 1, 1, 1, 1, 1, 1, 1);
        Check.argument("35: none", () -> x.plan(0, all, 0, 1, -1));
        Check.argument("35: -1", () -> x.plan(0, all, -1, 1, -1));
        Check.argument("35: seven", () -> x.plan(0, all, 7, 1, -1));
        Check.argument("35: far above", () -> x.plan(0, all, MAX, 1, -1));
        Check.argument("35: coin -1", () -> x.plan(-1, all, 1, 1, -1));
        Check.argument("35: coin 4", () -> x.plan(4, all, 1, 1, -1));
    }

    // 35: "no such BROKER"
    private static void planBrokers() {
        NoonWords x = debtor(100, 1, 2);
        for (int none = 3; none < 16; none++) {
            int k = none;
            Check.argument("35: who owes", () -> x.plan(0, debts(k, 1), 1, 1, -1));
            Check.argument("35: to whom", () -> x.plan(0, debts(0, k), 1, 1, -1));
            Check.argument("35: of the second", () -> x.plan(0, debts(0, 1, 0, k), 2, 1, -1));
        }
        NoonWords y = House.inn(12);
        House.owe(y, 11, 10, 0, 5);
        House.owe(y, 1, 0, 0, 5);
        y.put(11, 0, 5);
        y.put(1, 0, 5);
        isPlan("the last ones", y, debts(11, 10), 1, 1, 1, 1);
        for (int none = 12; none < 16; none++) {
            int k = none;
            Check.argument("35: of twelve, who owes", () -> y.plan(0, debts(k, 0), 1, 1, -1));
            Check.argument("35: of twelve, to whom", () -> y.plan(0, debts(0, k), 1, 1, -1));
        }
        Check.argument("35: of none", () -> new NoonWords().plan(0, 0, 1, 1, -1));
    }

    // Expected: "(.. no two alike)"; 35: "two DEBTS alike"
    private static void planTwoAlike() {
        NoonWords x = debtor(100, 1, 2, 3, 4, 5);
        House.owe(x, 1, 2, 0, 5);
        Check.argument("35: the first two", () -> x.plan(0, debts(0, 1, 0, 1), 2, 1, -1));
        Check.argument("35: the last two", () -> x.plan(0, debts(0, 2, 0, 3, 0, 1, 0, 1), 4, 1, -1));
        Check.argument("35: the first and the last",
                () -> x.plan(0, debts(0, 1, 0, 2, 0, 3, 0, 4, 0, 5, 0, 1), 6, 1, -1));
        isPlan("alike behind those that are asked", x, debts(0, 1, 0, 1), 1, 1, 1, 1);
        isPlan("of one broker, to one broker", x, debts(0, 1, 0, 2, 1, 2), 3, 2);
        x.put(1, 0, 4);
        isPlan("of one broker, to one broker", x, debts(0, 1, 0, 2, 1, 2), 3, 1, 1, 1, 1, 1);
    }

    // Expected: "each a NET above 0"; 35: "a NET that isn't above 0"
    private static void planNets() {
        NoonWords x = debtor(100, 1, 2);
        House.owe(x, 2, 0, 0, 2);
        isPlan("just above 0", x, debts(0, 1), 1, 1, 1, 1);
        Check.argument("35: just 0", () -> x.plan(0, debts(0, 2), 1, 1, -1));
        Check.argument("35: below 0", () -> x.plan(0, debts(1, 0), 1, 1, -1));
        Check.argument("35: of itself", () -> x.plan(0, debts(0, 0), 1, 1, -1));
        Check.argument("35: of another coin", () -> x.plan(1, debts(0, 1), 1, 1, -1));
        Check.argument("35: the second", () -> x.plan(0, debts(0, 1, 0, 2), 2, 1, -1));
    }

    // Expected: "a WEEK from 1 to so many (1 to 4)"
    private static void planWeeks() {
        NoonWords x = debtor(0, 5);
        x.expect(0, 0, 28, 5, 5);
        isPlan("the fourth", x, debts(0, 1), 1, 4, 4, 4);
        isPlan("not in three", x, debts(0, 1), 1, 3);
        isPlan("not in one", x, debts(0, 1), 1, 1);
        Check.argument("35: 0", () -> x.plan(0, debts(0, 1), 1, 0, -1));
        Check.argument("35: -1", () -> x.plan(0, debts(0, 1), 1, -1, -1));
        Check.argument("35: 5", () -> x.plan(0, debts(0, 1), 1, 5, -1));
        Check.argument("35: far above", () -> x.plan(0, debts(0, 1), 1, MAX, -1));
    }

    // 35: "or what is not -1 to below how many DEBTS there are"
    private static void planWhat() {
        NoonWords x = debtor(9, 1, 2);
        isPlan("both", x, debts(0, 1, 0, 2), 2, 4, 1, 1, 1);
        Check.argument("35: what -2", () -> x.plan(0, debts(0, 1, 0, 2), 2, 4, -2));
        Check.argument("35: what 2", () -> x.plan(0, debts(0, 1, 0, 2), 2, 4, 2));
        Check.argument("35: what 1 of one", () -> x.plan(0, debts(0, 1), 1, 4, 1));
        Check.argument("35: what 2 if there is none", () -> debtor(0, 5).plan(0, debts(0, 1), 1, 4, 2));
    }

    // 35: "higher bits aren't asked"
    private static void planHigherBits() {
        NoonWords x = debtor(100, 1, 2, 3, 4, 5, 6);
        isPlan("of one", x, debts(0, 1) | -256L, 1, 1, 1, 1);
        isPlan("of six", x, debts(0, 1, 0, 2, 0, 3, 0, 4, 0, 5, 0, 6) | -1L << 48, 6, 1, 1, 1, 1, 1, 1, 1, 1);
        isPlan("the highest alone", x, debts(0, 1) | Long.MIN_VALUE, 1, 1, 1, 1);
    }

    // 35: "NONE if there is no RIGHT one"
    private static void planNone() {
        isPlan("one is too many", debtor(0, 1), debts(0, 1), 1, 4);
        isPlan("both are too many", debtor(2, 1, 2), debts(0, 1, 0, 2), 2, 4);
        isPlan("one of them isn't", debtor(2, 1, 2), debts(0, 2), 1, 4, 1, 1);
    }

    // Expected: "is not below 0"
    private static void planRightAt0() {
        isPlan("just 0", debtor(5, 5), debts(0, 1), 1, 1, 1, 1);
        isPlan("just below 0", debtor(4, 5), debts(0, 1), 1, 1);
        NoonWords x = debtor(5, 5);
        x.expect(0, 0, 3, -1, 9);
        isPlan("low, not high", x, debts(0, 1), 1, 1);
    }

    // Expected: "behind WEEK w, DAY NOW and 7 w together", "from NOW to that DAY"
    private static void planRightByTheDay() {
        int[] days = {0, 7, 8, 14, 15, 21, 22, 28, 29};
        int[] weeks = {1, 1, 2, 2, 3, 3, 4, 4, -1};
        for (int k = 0; k < days.length; k++) {
            NoonWords x = debtor(0, 5);
            x.expect(0, 0, days[k], 5, 5);
            Check.is("35: what comes on " + days[k], weeks[k], x.plan(0, debts(0, 1), 1, 4, -1));
            NoonWords y = debtor(0, 5);
            y.go(3);
            y.expect(0, 0, days[k] + 3, 5, 5);
            Check.is("35: so many days from now " + days[k], weeks[k], y.plan(0, debts(0, 1), 1, 4, -1));
        }
    }

    // Expected: "from NOW": what was to come ahead of it isn't asked
    private static void planFromNow() {
        NoonWords x = debtor(0, 5);
        x.expect(0, 0, 3, 5, 5);
        x.go(3);
        isPlan("what comes now", x, debts(0, 1), 1, 1, 1, 1);
        x.go(1);
        isPlan("what is over", x, debts(0, 1), 1, 4);
        x.put(0, 0, 5);
        x.expect(0, 0, 4, -1, -1);
        isPlan("what leaves now", x, debts(0, 1), 1, 4);
        x.go(1);
        isPlan("what left", x, debts(0, 1), 1, 4, 1, 1);
    }

    // Terms: DAYS end with 999, WEEKS may not
    private static void planBehind999() {
        NoonWords x = debtor(0, 5);
        House.days(x, 985);
        x.expect(0, 0, 999, 5, 5);
        isPlan("on the last day", x, debts(0, 1), 1, 4, 2, 2);
        x.go(13);
        isPlan("behind the last day", x, debts(0, 1), 1, 4, 1, 1);
        x.go(1);
        isPlan("on the last day, now", x, debts(0, 1), 1, 4, 1, 1);
    }

    // Expected: "behind each of these WEEKS": up to so many, also behind the latest one that settles
    private static void planEachWeek() {
        NoonWords x = debtor(5, 5);
        x.expect(0, 0, 20, -1, 0);
        isPlan("behind week 3", x, debts(0, 1), 1, 3);
        isPlan("not behind week 2", x, debts(0, 1), 1, 2, 1, 1);
        x.expect(0, 0, 21, 1, 1);
        isPlan("the same week", x, debts(0, 1), 1, 3, 1, 1);
        x.expect(0, 0, 2, -5, -5);
        x.expect(0, 0, 9, 5, 5);
        isPlan("behind week 1 yet", x, debts(0, 1), 1, 4, 2, 2);
    }

    // Expected: "for each BROKER": also one without a DEBT
    private static void planEachBroker() {
        NoonWords x = debtor(5, 5, 9);
        x.expect(2, 0, 7, -1, 0);
        isPlan("one that isn't asked", x, debts(0, 1), 1, 1);
        x.put(2, 0, 1);
        isPlan("just 0", x, debts(0, 1), 1, 1, 1, 1);
        x.expect(2, 1, 7, -1, -1);
        isPlan("another coin", x, debts(0, 1), 1, 1, 1, 1);
        x.expect(1, 0, 7, -5, -5);
        isPlan("one that is owed, with what it gets", x, debts(0, 1), 1, 1, 1, 1);
        x.expect(1, 0, 7, -1, -1);
        isPlan("one that is owed, with what it gets", x, debts(0, 1), 1, 1);
    }

    // Expected: "what was SETTLED by then (with that WEEK)"
    private static void planWithThatWeek() {
        NoonWords x = House.inn(4);
        House.owe(x, 0, 1, 0, 5);
        House.owe(x, 1, 2, 0, 5);
        House.owe(x, 2, 3, 0, 5);
        x.put(0, 0, 5);
        isPlan("a row in one week", x, debts(2, 3, 1, 2, 0, 1), 3, 4, 1, 1, 1, 1);
        x.put(0, 0, -1);
        isPlan("one less", x, debts(2, 3, 1, 2, 0, 1), 3, 4);
        x.expect(0, 0, 8, 1, 1);
        isPlan("all by the second week", x, debts(2, 3, 1, 2, 0, 1), 3, 4, 2, 2, 2, 2);
        NoonWords y = House.inn(2);
        House.owe(y, 0, 1, 0, 1000);
        y.put(0, 0, 1000);
        y.put(1, 0, 10000000);
        isPlan("above a full drawer", y, debts(0, 1), 1, 1, 1, 1);
    }

    // Expected: "BEST: the least latest WEEK"
    private static void planLatestWeek() {
        NoonWords x = debtor(5, 9, 4, 4);
        x.expect(0, 0, 10, 4, 4);
        x.expect(0, 0, 20, 4, 4);
        x.expect(0, 0, 28, 4, 4);
        isPlan("by week 4", x, debts(0, 1, 0, 2, 0, 3), 3, 4, 4, 4, 1, 2);
        isPlan("not by week 3", x, debts(0, 1, 0, 2, 0, 3), 3, 3);
        NoonWords y = debtor(4, 6, 2, 2);
        y.expect(0, 0, 8, 2, 2);
        y.expect(0, 0, 15, 4, 4);
        // 4, 6, 10: the 6 in week 2 alone has week 3 for both others; with them first 6 waits for week 3: sum 1+1+3.
        isPlan("the least latest, then the least sum", y, debts(0, 1, 0, 2, 0, 3), 3, 4, 3, 3, 1, 1);
    }

    // Expected: "of these the least sum of WEEKS"
    private static void planLeastSum() {
        NoonWords x = debtor(10, 10, 5, 5);
        x.expect(0, 0, 14, 10, 10);
        isPlan("2 1 1 ahead of 1 2 2", x, debts(0, 1, 0, 2, 0, 3), 3, 4, 2, 2, 1, 1);
        NoonWords y = debtor(10, 10, 5, 5, 1);
        y.expect(0, 0, 14, 11, 11);
        isPlan("2 1 1 2 ahead of 1 2 2 2", y, debts(0, 1, 0, 2, 0, 3, 0, 4), 4, 4, 2, 2, 1, 1, 2);
    }

    // Expected: "of these the first, DEBT by DEBT the lesser WEEK"
    private static void planLesserWeekFirst() {
        NoonWords x = debtor(5, 5, 5, 5);
        x.expect(0, 0, 8, 5, 5);
        x.expect(0, 0, 15, 5, 5);
        isPlan("1 2 3", x, debts(0, 1, 0, 2, 0, 3), 3, 4, 3, 1, 2, 3);
        isPlan("1 2 3 in another order", x, debts(0, 3, 0, 1, 0, 2), 3, 4, 3, 1, 2, 3);
        NoonWords y = debtor(5, 6, 5, 5);
        y.expect(0, 0, 8, 6, 6);
        y.expect(0, 0, 15, 5, 5);
        isPlan("the first can't be in week 1", y, debts(0, 1, 0, 2, 0, 3), 3, 4, 3, 2, 1, 3);
    }

    // Expected: "LOW of all that is EXPECTED": of 80
    private static void planOf80() {
        NoonWords x = debtor(0, 100);
        for (int k = 0; k < 80; k++) {
            x.expect(0, 0, k / 4, k == 0 ? 13 : k == 79 ? 10 : 1, 50);
        }
        // By day 7 there are 13 and 31, by day 14 28 more, by day 21 19 and the last 10.
        isPlan("101 of 80", x, debts(0, 1), 1, 4, 3, 3);
        x.put(0, 0, 100 - 13 - 31);
        isPlan("as much by week 1", x, debts(0, 1), 1, 4, 1, 1);
        x.put(0, 0, -1);
        isPlan("one less by week 1", x, debts(0, 1), 1, 4, 2, 2);
    }

    private static void planSix() {
        NoonWords x = debtor(6, 6, 6, 6, 6, 6, 6);
        long six = debts(0, 1, 0, 2, 0, 3, 0, 4, 0, 5, 0, 6);
        isPlan("none of six", x, six, 6, 4);
        x.expect(0, 0, 7, 5, 5);
        x.expect(0, 0, 14, 7, 7);
        x.expect(0, 0, 21, 6, 6);
        x.expect(0, 0, 28, 11, 11);
        isPlan("6, 18, 24 and 35", x, six, 6, 4);
        x.expect(0, 0, 28, 1, 1);
        isPlan("6, 18, 24 and 36", x, six, 6, 4, 4, 1, 2, 2, 3, 4, 4);
    }
}
