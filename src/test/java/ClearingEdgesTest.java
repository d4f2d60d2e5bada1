/** Promises 28 to 31, sentence by sentence: rings and the fewest settlings at their edges. */
public final class ClearingEdgesTest {
    public static void main(String[] args) {
        ringNone();
        ringOf3To5();
        ringSoManyAtMost();
        ringNetsAbove0();
        ringCrossIsTheLeast();
        ringCrossTimesHowMany();
        ringWithTheFewest();
        ringFirstByNumbers();
        ringFromItsLeastNumber();
        ringOfTheLastBrokers();
        ringArguments();
        crossNone();
        crossEntries();
        cross400Entries();
        crossArguments();
        fewestNone();
        fewestSets();
        fewestWithinTheSet();
        fewestGroups();
        fewestLeastSet();
        fewestOfNine();
        stepNotSoMany();
        stepLesserAmount();
        stepArguments();
        Check.end();
    }

    /** A ring of so much, each owing the next one. */
    private static void round(NoonWords x, int coin, int many, int... brokers) {
        for (int k = 0; k < brokers.length; k++) {
            House.owe(x, brokers[k], brokers[(k + 1) % brokers.length], coin, many);
        }
    }

    private static void isRing(String what, NoonWords x, int most, int cross, int... ring) {
        boolean none = ring.length == 0;
        Check.is("28: cross, " + what, none ? -1 : cross, x.ring(0, most, -1));
        Check.is("28: how many, " + what, none ? -1 : ring.length, x.ring(0, most, -2));
        for (int k = 0; k < 5; k++) {
            Check.is("28: place " + k + ", " + what, k < ring.length ? ring[k] : -1, x.ring(0, most, k));
        }
    }

    // 28: "NONE if there is none (of either)"
    private static void ringNone() {
        isRing("no brokers", new NoonWords(), 5, 0);
        NoonWords x = House.inn(12);
        isRing("no entries", x, 5, 0);
        House.owe(x, 0, 1, 0, 5);
        House.owe(x, 1, 2, 0, 5);
        isRing("a row", x, 5, 0);
        House.owe(x, 0, 2, 0, 5);
        isRing("no way back", x, 5, 0);
        NoonWords y = House.inn(3);
        round(y, 1, 5, 0, 1, 2);
        isRing("another coin", y, 5, 0);
        Check.is("28: of that coin", 5, y.ring(1, 5, -1));
    }

    // Debts: "A RING in a COIN: 3 to 5 BROKERS"
    private static void ringOf3To5() {
        NoonWords x = House.inn(6);
        House.owe(x, 0, 1, 0, 5);
        House.owe(x, 1, 0, 0, 3);
        isRing("of two there is none", x, 5, 0);
        NoonWords three = House.inn(6);
        round(three, 0, 7, 0, 1, 2);
        isRing("of three", three, 5, 7, 0, 1, 2);
        NoonWords five = House.inn(6);
        round(five, 0, 7, 0, 1, 2, 3, 4);
        isRing("of five", five, 5, 7, 0, 1, 2, 3, 4);
        NoonWords six = House.inn(6);
        round(six, 0, 7, 0, 1, 2, 3, 4, 5);
        isRing("of six there is none", six, 5, 0);
    }

    // Debts: "BEST RING of so many at most (3 to 5)"
    private static void ringSoManyAtMost() {
        NoonWords x = House.inn(12);
        round(x, 0, 9, 0, 1, 2, 3, 4);
        isRing("five of four", x, 4, 0);
        isRing("five of five", x, 5, 9, 0, 1, 2, 3, 4);
        round(x, 0, 5, 5, 6, 7, 8);
        isRing("four of three", x, 3, 0);
        isRing("four of four", x, 4, 5, 5, 6, 7, 8);
        round(x, 0, 2, 9, 10, 11);
        isRing("three of three", x, 3, 2, 9, 10, 11);
        isRing("three of four", x, 4, 5, 5, 6, 7, 8);
        isRing("three of five", x, 5, 9, 0, 1, 2, 3, 4);
    }

    // Debts: "each with a NET above 0 to the next one, the last one to the first"
    private static void ringNetsAbove0() {
        NoonWords x = House.inn(3);
        round(x, 0, 1, 0, 1, 2);
        isRing("of 1", x, 3, 1, 0, 1, 2);
        House.owe(x, 1, 0, 0, 1);
        isRing("the first is 0", x, 3, 0);
        House.owe(x, 0, 1, 0, 1);
        House.owe(x, 0, 2, 0, 1);
        isRing("the last is 0", x, 3, 0);
        House.owe(x, 0, 2, 0, 1);
        isRing("the last is below 0", x, 3, 0);
    }

    // Debts: "its CROSS is the least of these NETS"
    private static void ringCrossIsTheLeast() {
        for (int least = 0; least < 4; least++) {
            NoonWords x = House.inn(4);
            for (int k = 0; k < 4; k++) {
                House.owe(x, k, (k + 1) % 4, 0, k == least ? 3 : 4 + k);
            }
            isRing("the least of place " + least, x, 5, 3, 0, 1, 2, 3);
        }
    }

    // Debts: "the one with the greatest CROSS times how many they are"
    private static void ringCrossTimesHowMany() {
        NoonWords x = House.inn(9);
        round(x, 0, 10, 0, 1, 2, 3, 4);
        round(x, 0, 12, 5, 6, 7, 8);
        isRing("50 and 48", x, 5, 10, 0, 1, 2, 3, 4);
        House.owe(x, 5, 6, 0, 1);
        House.owe(x, 6, 7, 0, 1);
        House.owe(x, 7, 8, 0, 1);
        isRing("one of them is 12 yet", x, 5, 10, 0, 1, 2, 3, 4);
        House.owe(x, 8, 5, 0, 1);
        isRing("50 and 52", x, 5, 13, 5, 6, 7, 8);
        NoonWords y = House.inn(8);
        round(y, 0, 10, 3, 4, 5, 6, 7);
        round(y, 0, 17, 0, 1, 2);
        isRing("50 and 51", y, 5, 17, 0, 1, 2);
        NoonWords w = House.inn(8);
        round(w, 0, 10, 0, 1, 2, 3, 4);
        round(w, 0, 17, 5, 6, 7);
        isRing("51 behind 50", w, 5, 17, 5, 6, 7);
        NoonWords z = House.inn(8);
        round(z, 0, 17, 3, 4, 5, 6);
        round(z, 0, 22, 0, 1, 2);
        isRing("68 and 66", z, 5, 17, 3, 4, 5, 6);
    }

    // Debts: "of these with the fewest"
    private static void ringWithTheFewest() {
        NoonWords x = House.inn(12);
        round(x, 0, 12, 0, 1, 2, 3, 4);
        round(x, 0, 15, 5, 6, 7, 8);
        isRing("60 by five and four", x, 5, 15, 5, 6, 7, 8);
        round(x, 0, 20, 9, 10, 11);
        isRing("60 by five, four and three", x, 5, 20, 9, 10, 11);
        NoonWords y = House.inn(12);
        round(y, 0, 20, 0, 1, 2);
        round(y, 0, 15, 3, 4, 5, 6);
        round(y, 0, 12, 7, 8, 9, 10, 11);
        isRing("60 by three, four and five", y, 5, 20, 0, 1, 2);
    }

    // Debts: "of these, begun with its least number, the first by numbers, one by one"
    private static void ringFirstByNumbers() {
        NoonWords x = House.inn(12);
        round(x, 0, 5, 6, 7, 8);
        round(x, 0, 5, 3, 4, 5);
        isRing("by the first number", x, 3, 5, 3, 4, 5);
        round(x, 0, 5, 0, 11, 10);
        isRing("by the first number alone", x, 3, 5, 0, 11, 10);
        NoonWords y = House.inn(12);
        House.owe(y, 0, 2, 0, 5);
        House.owe(y, 0, 1, 0, 5);
        House.owe(y, 1, 11, 0, 5);
        House.owe(y, 2, 3, 0, 5);
        House.owe(y, 11, 0, 0, 5);
        House.owe(y, 3, 0, 0, 5);
        isRing("by the second number", y, 3, 5, 0, 1, 11);
        House.owe(y, 1, 10, 0, 5);
        House.owe(y, 10, 0, 0, 5);
        isRing("by the third number", y, 3, 5, 0, 1, 10);
    }

    // Debts: "begun with its least number"
    private static void ringFromItsLeastNumber() {
        NoonWords x = House.inn(5);
        round(x, 0, 5, 4, 3, 2, 1, 0);
        isRing("the other way round", x, 5, 5, 0, 4, 3, 2, 1);
        NoonWords y = House.inn(5);
        round(y, 0, 5, 3, 1, 4, 2);
        isRing("in no order", y, 5, 5, 1, 4, 2, 3);
    }

    private static void ringOfTheLastBrokers() {
        NoonWords x = House.inn(12);
        round(x, 0, 1000, 11, 10, 9, 8, 7);
        isRing("the last five", x, 5, 1000, 7, 11, 10, 9, 8);
        NoonWords y = House.inn(12);
        for (int a = 0; a < 12; a++) {
            for (int b = 0; b < a; b++) {
                House.owe(y, (a + b) % 2 == 0 ? a : b, (a + b) % 2 == 0 ? b : a, 0, 1);
            }
        }
        isRing("among all twelve", y, 3, 1, 0, 1, 2);
        isRing("five of twelve", y, 5, 1, 0, 1, 2, 3, 4);
        Check.is("29: it is crossed out", 1, y.cross(0, 5));
    }

    // 28: "IllegalArgumentException: the COIN, not so many, or what is not -2 to 4."
    private static void ringArguments() {
        NoonWords x = House.inn(3);
        round(x, 3, 5, 0, 1, 2);
        Check.is("28: the greatest coin", 5, x.ring(3, 3, -1));
        Check.argument("28: coin -1", () -> x.ring(-1, 3, -1));
        Check.argument("28: coin 4", () -> x.ring(4, 3, -1));
        Check.argument("28: two at most", () -> x.ring(3, 2, -1));
        Check.argument("28: six at most", () -> x.ring(3, 6, -1));
        Check.argument("28: what -3", () -> x.ring(3, 3, -3));
        Check.argument("28: what 5", () -> x.ring(3, 5, 5));
        Check.is("28: what 4", -1, x.ring(3, 5, 4));
        Check.is("28: what 3", -1, x.ring(3, 3, 3));
    }

    // 29: "its CROSS; 0 if there is none"
    private static void crossNone() {
        NoonWords x = House.inn(4);
        Check.is("29: none", 0, x.cross(0, 5));
        round(x, 0, 5, 0, 1, 2, 3);
        Check.is("29: none of three", 0, x.cross(0, 3));
        Check.is("29: no entries", 4, x.count(6));
        Check.is("29: one of four", 5, x.cross(0, 4));
        Check.is("29: none any more", 0, x.cross(0, 4));
        Check.is("29: its entries", 8, x.count(6));
    }

    // Debts: "an ENTRY of CROSS below 0 for each NET of it, from its first on, in the TOWN of whom it is owed to (SORT 3)"
    private static void crossEntries() {
        NoonWords x = House.row(4);
        House.owe(x, 3, 2, 1, 9);
        House.owe(x, 2, 1, 1, 7);
        House.owe(x, 1, 3, 1, 8);
        x.go(6);
        Check.is("29: its cross", 7, x.cross(1, 5));
        int[][] entries = {{6, 3, 1, 3, 1, -7, 3}, {6, 2, 3, 2, 1, -7, 3}, {6, 1, 2, 1, 1, -7, 3}};
        for (int k = 0; k < 3; k++) {
            for (int what = 0; what < 7; what++) {
                Check.is("32: entry " + k + ", " + what, entries[k][what], x.entry(3 + k, what));
            }
        }
        Check.is("21: 2 less", 2, x.owes(3, 2, 1));
        Check.is("21: none", 0, x.owes(2, 1, 1));
        Check.is("21: 1 less", 1, x.owes(1, 3, 1));
        Check.is("22: a day ahead", 8, x.heard(1, 1, 3, 1, 11));
        Check.is("22: heard that day", 1, x.heard(1, 1, 3, 1, 12));
    }

    // 29: "IllegalStateException: there would be more than 400 ENTRIES."
    private static void cross400Entries() {
        for (int size = 3; size <= 5; size++) {
            for (int over = 0; over < 2; over++) {
                NoonWords x = House.inn(5);
                round(x, 0, 5, size == 3 ? new int[] {0, 1, 2} : size == 4 ? new int[] {0, 1, 2, 3}
                        : new int[] {0, 1, 2, 3, 4});
                House.fill(x, 0, 4, 400 - 2 * size + over);
                if (over == 0) {
                    Check.is("29: just 400", 5, x.cross(0, 5));
                    Check.is("29: 400", 400, x.count(6));
                    Check.is("29: none with 400", 0, x.cross(0, 5));
                } else {
                    Check.calm("29", x, () -> Check.state("29: 401 would be", () -> x.cross(0, 5)));
                    Check.is("28: it is there yet", 5, x.ring(0, 5, -1));
                    Check.is("29: none of another coin", 0, x.cross(1, 5));
                }
            }
        }
    }

    // 29: "IllegalArgumentException likewise"
    private static void crossArguments() {
        NoonWords x = House.inn(3);
        round(x, 0, 5, 0, 1, 2);
        Check.calm("29", x, () -> {
            Check.argument("29: coin -1", () -> x.cross(-1, 3));
            Check.argument("29: coin 4", () -> x.cross(4, 3));
            Check.argument("29: two at most", () -> x.cross(0, 2));
            Check.argument("29: six at most", () -> x.cross(0, 6));
        });
        House.fill(x, 0, 1, 397);
        Check.argument("29: told ahead of the state", () -> x.cross(0, 6));
    }

    // 30: without debts there is nothing to settle
    private static void fewestNone() {
        NoonWords x = House.inn(9);
        Check.is("30: nobody owes", 0, x.fewest(0, 511));
        Check.is("31: no steps", -1, x.step(0, 511, 0, 0));
        round(x, 0, 5, 0, 1, 2);
        Check.is("30: a ring is even", 0, x.fewest(0, 511));
        Check.is("30: a row isn't", 1, x.fewest(0, 3));
        Check.is("30: one alone", 0, x.fewest(0, 1));
    }

    // 30: "or the set (of BROKERS there are, 1 to 9)"
    private static void fewestSets() {
        NoonWords x = House.inn(12);
        House.owe(x, 11, 10, 3, 5);
        Check.is("30: the least set", 0, x.fewest(3, 1));
        Check.is("30: one of twelve", 0, x.fewest(3, 2048));
        Check.is("30: the last nine", 1, x.fewest(3, 0xff8));
        Check.is("31: who pays", 11, x.step(3, 0xff8, 0, 0));
        Check.is("31: to whom", 10, x.step(3, 0xff8, 0, 1));
        Check.is("31: how many", 5, x.step(3, 0xff8, 0, 2));
        Check.argument("30: an empty set", () -> x.fewest(3, 0));
        Check.argument("30: ten", () -> x.fewest(3, 0xffc));
        Check.argument("30: twelve", () -> x.fewest(3, 0xfff));
        Check.argument("30: one that isn't there", () -> x.fewest(3, 4096));
        Check.argument("30: with one that isn't there", () -> x.fewest(3, 4097));
        Check.argument("30: below 0", () -> x.fewest(3, -1));
        Check.argument("30: far below 0", () -> x.fewest(3, Integer.MIN_VALUE));
        Check.argument("30: far above", () -> x.fewest(3, 1 << 30));
        Check.argument("30: coin -1", () -> x.fewest(-1, 1));
        Check.argument("30: coin 4", () -> x.fewest(4, 1));
        NoonWords y = House.inn(2);
        Check.argument("30: 4 of two", () -> y.fewest(0, 4));
        Check.is("30: 3 of two", 0, y.fewest(0, 3));
        Check.argument("30: of none", () -> new NoonWords().fewest(0, 1));
    }

    // Debts: "by NETS within the set"
    private static void fewestWithinTheSet() {
        NoonWords x = House.inn(4);
        House.owe(x, 0, 1, 0, 10);
        House.owe(x, 1, 2, 0, 10);
        House.owe(x, 2, 3, 0, 4);
        Check.is("30: two steps", 2, x.fewest(0, 15));
        isSteps(x, 15, 0, 2, 6, 0, 3, 4);
        Check.is("30: without the last one", 1, x.fewest(0, 7));
        isSteps(x, 7, 0, 2, 10);
        Check.is("30: without those between", 0, x.fewest(0, 9));
        Check.is("30: another coin", 0, x.fewest(1, 15));
    }

    private static void isSteps(NoonWords x, int set, int... steps) {
        Check.is("30: how many", steps.length / 3, x.fewest(0, set));
        for (int k = 0; k < steps.length; k++) {
            Check.is("31: step " + k / 3 + ", " + k % 3, steps[k], x.step(0, set, k / 3, k % 3));
        }
        for (int what = 0; what < 3; what++) {
            Check.is("31: not so many", -1, x.step(0, set, steps.length / 3, what));
        }
    }

    /** Each has such a balance: below 0 it owes that much, by debts of the last one. */
    private static NoonWords balances(int... owed) {
        NoonWords x = House.inn(owed.length);
        for (int k = 0; k + 1 < owed.length; k++) {
            if (owed[k] > 0) {
                House.owe(x, owed.length - 1, k, 0, owed[k]);
            } else {
                House.owe(x, k, owed.length - 1, 0, -owed[k]);
            }
        }
        return x;
    }

    // Debts: "as many as there are for whom it isn't 0 less the greatest number of GROUPS"
    private static void fewestGroups() {
        isSteps(balances(-3, 3), 3, 0, 1, 3);
        isSteps(balances(3, -3), 3, 1, 0, 3);
        isSteps(balances(-3, 0, 3), 7, 0, 2, 3);
        isSteps(balances(-3, 3, -3, 3), 15, 0, 1, 3, 2, 3, 3);
        isSteps(balances(-3, 2, -2, 3), 15, 0, 3, 3, 2, 1, 2);
        isSteps(balances(-5, 2, 3, -1, 1), 31, 0, 1, 2, 0, 2, 3, 3, 4, 1);
        isSteps(balances(-1, -1, -1, 3), 15, 0, 3, 1, 1, 3, 1, 2, 3, 1);
    }

    // Debts: "that in which the least number has the GROUP with the least set .., and so on with the rest"
    private static void fewestLeastSet() {
        // 0 with 1 or with 2: the least set is 0 and 1.
        isSteps(balances(-3, 3, 3, -3), 15, 0, 1, 3, 3, 2, 3);
        // 0 with 2 and 3, or with 5: two groups either way; {0, 2, 3} is 13, {0, 5} is 33.
        isSteps(balances(-5, -5, 2, 3, 0, 5), 63, 0, 2, 2, 0, 3, 3, 1, 5, 5);
        // Two groups either way: {0, 1, 2, 3} is 15, {0, 4} is 17.
        isSteps(balances(-6, 1, 2, 3, 6, -6), 63, 0, 1, 1, 0, 2, 2, 0, 3, 3, 5, 4, 6);
        // {0, 1, 2} is the lesser set, but leaves one group more; behind {0, 5} there are two, that of 1 first.
        isSteps(balances(-4, 1, 3, -3, -1, 4, 0), 127, 0, 5, 4, 4, 1, 1, 3, 2, 3);
    }

    // Debts: "in a set of BROKERS (1 to 9)"
    private static void fewestOfNine() {
        isSteps(balances(-1, 1, -2, 2, -3, 3, -4, 4, 0), 511, 0, 1, 1, 2, 3, 2, 4, 5, 3, 6, 7, 4);
        isSteps(balances(-1, -2, -4, -8, -16, -32, -64, -128, 255), 511, 0, 8, 1, 1, 8, 2, 2, 8, 4, 3, 8, 8, 4, 8, 16,
                5, 8, 32, 6, 8, 64, 7, 8, 128);
        isSteps(balances(1, 2, 4, 8, 16, 32, 64, 128, -255), 511, 8, 0, 1, 8, 1, 2, 8, 2, 4, 8, 3, 8, 8, 4, 16,
                8, 5, 32, 8, 6, 64, 8, 7, 128);
        NoonWords x = House.inn(10);
        for (int k = 0; k < 9; k++) {
            House.owe(x, k, 9, 0, 7);
        }
        Check.is("30: none of nine owes another", 0, x.fewest(0, 511));
        Check.is("30: eight of them owe one", 8, x.fewest(0, 0x3fe));
    }

    // 31: "NONE if there are not so many"
    private static void stepNotSoMany() {
        NoonWords x = balances(-3, 1, 2);
        for (int what = 0; what < 3; what++) {
            Check.is("31: of two the second", new int[] {0, 2, 2}[what], x.step(0, 7, 1, what));
            Check.is("31: of two the third", -1, x.step(0, 7, 2, what));
            Check.is("31: below the first", -1, x.step(0, 7, -1, what));
            Check.is("31: far above", -1, x.step(0, 7, Integer.MAX_VALUE, what));
            Check.is("31: far below", -1, x.step(0, 7, Integer.MIN_VALUE, what));
        }
    }

    // Debts: "the least number that owes pays the least one that is owed the lesser one of both amounts"
    private static void stepLesserAmount() {
        isSteps(balances(-3, 2, -2, 3), 15, 0, 3, 3, 2, 1, 2);
        isSteps(balances(-7, -2, 4, 5), 15, 0, 2, 4, 0, 3, 3, 1, 3, 2);
        isSteps(balances(4, 5, -7, -2), 15, 2, 0, 4, 2, 1, 3, 3, 1, 2);
        isSteps(balances(-2, -7, 5, 4), 15, 0, 2, 2, 1, 2, 3, 1, 3, 4);
    }

    // 31: "IllegalArgumentException: also another what."
    private static void stepArguments() {
        NoonWords x = balances(-3, 1, 2);
        Check.argument("31: what -1", () -> x.step(0, 7, 0, -1));
        Check.argument("31: what 3", () -> x.step(0, 7, 0, 3));
        Check.argument("31: what 3 of no step", () -> x.step(0, 7, 99, 3));
        Check.argument("31: coin -1", () -> x.step(-1, 7, 0, 0));
        Check.argument("31: coin 4", () -> x.step(4, 7, 0, 0));
        Check.argument("31: an empty set", () -> x.step(0, 0, 0, 0));
        Check.argument("31: one that isn't there", () -> x.step(0, 8, 0, 0));
        Check.argument("31: below 0", () -> x.step(0, -1, 0, 0));
        NoonWords y = House.inn(12);
        Check.is("31: nine", -1, y.step(0, 511, 0, 0));
        Check.argument("31: ten", () -> y.step(0, 1023, 0, 0));
    }
}
