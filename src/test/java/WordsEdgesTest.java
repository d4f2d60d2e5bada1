/** Promises 16 to 20, sentence by sentence: what is too small, too large, empty, full, a day early or late, refused. */
public final class WordsEdgesTest {
    private static final int MIN = Integer.MIN_VALUE;
    private static final int MAX = Integer.MAX_VALUE;

    public static void main(String[] args) {
        tellSoMany();
        tellSecrets();
        tellBothAreOne();
        tellBrokersAndCoin();
        tellHasFallen();
        tellLag();
        tellBan();
        tellBound();
        tellBoundBelow0();
        tellBoundRounded();
        tellAboveAll();
        tellAtMost100();
        readyAndStop();
        payReady();
        payStop();
        payDrawer();
        payHasFallen();
        payOnce();
        payNoSuchWord();
        wrongSecrets();
        thirdWrongSecret();
        thirdOfAStopThatIsNow();
        pay400Entries();
        payTwice();
        otherStopsWhenHeard();
        otherStopsIfLater();
        backOnce();
        backDrawer();
        backHasFallen();
        backHeard();
        backOfATwin();
        backOfADeadOne();
        backStopsIfLater();
        backTillThen();
        twinThirdBroker();
        twinHasOne();
        twinStop();
        twinHeardOrTakenBack();
        twinHasFallen();
        twinLag();
        twinAtMost100();
        twinOfAPaidOne();
        wordArguments();
        wordStates();
        roadsToldLater();
        Check.end();
    }

    /** Towns 0, 1, 2 in a row, three days each; a broker in each (0, 1, 2), one more in town 1 (3), one in 3 (4) without roads. */
    private static NoonWords house() {
        NoonWords x = House.row(3);
        x.broker(1, 3);
        x.town();
        x.broker(3, 4);
        for (int k = 1; k < 4; k++) {
            x.put(k, 0, 1000);
        }
        return x;
    }

    // Words: "to pay so many (1 to 100,000)"; 16: "IllegalArgumentException: .. the number"
    private static void tellSoMany() {
        NoonWords x = house();
        Check.is("16: the least", 0, x.tell(0, 1, 0, 1, 0));
        Check.is("16: the most", 1, x.tell(0, 1, 0, 100000, 0));
        Check.is("20: the least", 1, x.word(0, 3));
        Check.is("20: the most", 100000, x.word(1, 3));
        Check.calm("16", x, () -> {
            Check.argument("16: 0", () -> x.tell(0, 1, 0, 0, 0));
            Check.argument("16: -1", () -> x.tell(0, 1, 0, -1, 0));
            Check.argument("16: 100,001", () -> x.tell(0, 1, 0, 100001, 0));
            Check.argument("16: far above", () -> x.tell(0, 1, 0, MAX, 0));
            Check.argument("16: far below", () -> x.tell(0, 1, 0, MIN, 0));
        });
    }

    // Words: "a SECRET (0 to 32,767)"
    private static void tellSecrets() {
        NoonWords x = house();
        Check.is("16: the least", 0, x.tell(0, 1, 0, 1, 0));
        Check.is("16: the greatest", 1, x.tell(0, 1, 0, 1, 32767));
        Check.calm("16", x, () -> {
            Check.argument("16: -1", () -> x.tell(0, 1, 0, 1, -1));
            Check.argument("16: 32,768", () -> x.tell(0, 1, 0, 1, 32768));
            Check.argument("16: far above", () -> x.tell(0, 1, 0, 1, MAX));
            Check.argument("16: far below", () -> x.tell(0, 1, 0, 1, MIN));
        });
        x.go(3);
        Check.is("17: the least", 1, x.pay(0, 0));
        Check.is("17: the greatest", 1, x.pay(1, 32767));
    }

    // 16: "IllegalArgumentException: both are one"
    private static void tellBothAreOne() {
        NoonWords x = house();
        Check.calm("16", x, () -> {
            Check.argument("16: both the first", () -> x.tell(0, 0, 0, 1, 0));
            Check.argument("16: both the last, without roads", () -> x.tell(4, 4, 0, 1, 0));
        });
    }

    private static void tellBrokersAndCoin() {
        NoonWords x = house();
        Check.is("16: the least coin", 0, x.tell(0, 1, 0, 1, 0));
        Check.is("16: the greatest coin", 1, x.tell(0, 1, 3, 1, 0));
        Check.calm("16", x, () -> {
            Check.argument("16: coin -1", () -> x.tell(0, 1, -1, 1, 0));
            Check.argument("16: coin 4", () -> x.tell(0, 1, 4, 1, 0));
            Check.none("16: a teller below 0", () -> x.tell(-1, 1, 0, 1, 0));
            Check.none("16: the next teller", () -> x.tell(5, 1, 0, 1, 0));
            Check.none("16: a payer below 0", () -> x.tell(0, -1, 0, 1, 0));
            Check.none("16: the next payer", () -> x.tell(0, 5, 0, 1, 0));
            Check.none("16: no such broker is told first", () -> x.tell(5, 5, 4, 0, -1));
            Check.argument("16: an argument is told ahead of the state", () -> x.tell(0, 4, 4, 1, 0));
        });
    }

    // Words: "if neither has FALLEN"
    private static void tellHasFallen() {
        NoonWords x = house();
        x.falls(3);
        Check.calm("16", x, () -> {
            Check.state("16: the teller has", () -> x.tell(3, 1, 0, 1, 0));
            Check.state("16: the payer has", () -> x.tell(1, 3, 0, 1, 0));
        });
        Check.is("16: others in that town", 0, x.tell(1, 0, 0, 1, 0));
    }

    // Words: "there is a LAG from the teller's TOWN to the payer's"
    private static void tellLag() {
        NoonWords x = house();
        Check.calm("16", x, () -> {
            Check.state("16: none there", () -> x.tell(0, 4, 0, 1, 0));
            Check.state("16: none back", () -> x.tell(4, 0, 0, 1, 0));
        });
        Check.is("16: of 0 days", 0, x.tell(1, 3, 0, 1, 7));
        Check.is("20: ready now", 0, x.word(0, 4));
        Check.is("17: paid the same day", 1, x.pay(0, 7));
        x.road(3, 2, 9);
        Check.is("16: there is one now", 1, x.tell(0, 4, 0, 1, 0));
        Check.is("20: ready", 15, x.word(1, 4));
    }

    // Words: "there is no BAN (ASKED of both, the number, the COIN ..)"
    private static void tellBan() {
        NoonWords x = house();
        Check.text(x, "ban unless n<10 and coin=2 and to=1;", 1, 0);
        Check.calm("16", x, () -> {
            Check.state("16: by the number", () -> x.tell(0, 1, 2, 10, 0));
            Check.state("16: by the coin", () -> x.tell(0, 1, 1, 9, 0));
            Check.state("16: by the payer", () -> x.tell(0, 2, 2, 9, 0));
        });
        Check.is("16: none", 0, x.tell(0, 1, 2, 9, 0));
        Check.is("16: not in the payer's town", 1, x.tell(1, 0, 0, 500, 0));
    }

    // Words: "is not above BOUND"
    private static void tellBound() {
        NoonWords x = house();
        Check.text(x, "bound 100;", 1, 0);
        Check.is("16: as much as that", 0, x.tell(0, 1, 0, 100, 0));
        Check.state("16: one above", () -> x.tell(0, 1, 0, 101, 0));
        House.owe(x, 0, 1, 0, 60);
        Check.is("16: with what is owed", 1, x.tell(0, 1, 0, 40, 0));
        Check.calm("16", x, () -> Check.state("16: one above", () -> x.tell(0, 1, 0, 41, 0)));
        House.owe(x, 0, 1, 0, 40);
        Check.state("16: there is no room at all", () -> x.tell(0, 1, 0, 1, 0));
        NoonWords y = house();
        Check.is("16: a million without any", 0, y.tell(0, 1, 0, 100000, 0));
        y.rate(0, 1, 1000);
        Check.is("16: just a million", 1, y.tell(0, 1, 1, 100000, 0));
        House.owe(y, 0, 1, 0, 1);
        Check.calm("16", y, () -> Check.state("16: one above", () -> y.tell(0, 1, 1, 100000, 0)));
    }

    // Words: "WORTH of NET of teller and payer in all COINS together" (below 0 too)
    private static void tellBoundBelow0() {
        NoonWords x = house();
        Check.text(x, "bound 0;", 1, 0);
        Check.state("16: nothing is owed", () -> x.tell(0, 1, 0, 1, 0));
        House.owe(x, 1, 0, 2, 50);
        Check.is("16: the payer owes it", 0, x.tell(0, 1, 0, 50, 0));
        Check.calm("16", x, () -> Check.state("16: one above", () -> x.tell(0, 1, 0, 51, 0)));
        House.owe(x, 0, 1, 3, 20);
        Check.state("16: all coins", () -> x.tell(0, 1, 0, 31, 0));
        Check.is("16: all coins", 1, x.tell(0, 1, 0, 30, 0));
    }

    // Terms: WORTH "rounded down (below 0 too)", in the teller's TOWN NOW
    private static void tellBoundRounded() {
        NoonWords x = house();
        Check.text(x, "bound 0;", 1, 0);
        x.rate(0, 1, 1);
        Check.is("16: 0.99 is 0", 0, x.tell(0, 1, 1, 99, 0));
        Check.calm("16", x, () -> Check.state("16: 1 is above", () -> x.tell(0, 1, 1, 100, 0)));
        House.owe(x, 1, 0, 1, 1);
        Check.is("16: -0.01 is -1", 1, x.tell(0, 1, 0, 1, 0));
        Check.calm("16", x, () -> Check.state("16: one above", () -> x.tell(0, 1, 0, 2, 0)));
        NoonWords y = house();
        Check.text(y, "bound 50;", 1, 0);
        y.rate(1, 1, 1000);
        Check.is("16: a rate that isn't heard yet", 0, y.tell(0, 1, 1, 50, 0));
        y.go(3);
        Check.calm("16", y, () -> Check.state("16: it is heard now", () -> y.tell(0, 1, 1, 6, 0)));
        Check.is("16: as much as that", 1, y.tell(0, 1, 1, 5, 0));
    }

    // Words: "The teller's DRAWER gets the number, and FEE"; Terms: "what comes in above that is gone"
    private static void tellAboveAll() {
        NoonWords x = house();
        Check.text(x, "fee 5;", 1, 0);
        x.put(0, 0, 10000000 - 15);
        x.tell(0, 1, 0, 10, 0);
        Check.is("16: just full", 10000000, x.drawer(0, 0));
        x.put(0, 0, -14);
        x.tell(0, 1, 0, 10, 0);
        Check.is("16: one is gone", 10000000, x.drawer(0, 0));
        x.put(0, 0, -3);
        x.tell(0, 1, 0, 10, 0);
        Check.is("16: all of the fee is gone", 10000000, x.drawer(0, 0));
        Check.is("20: the fee as it was asked", 5, x.word(2, 9));
        Check.is("20: the number as it was told", 10, x.word(2, 3));
        NoonWords y = house();
        Check.text(y, "fee 0-1;", 1, 0);
        y.tell(0, 1, 0, 10, 0);
        Check.is("16: no fee below 0", 10, y.drawer(0, 0));
        Check.is("20: no fee", 0, y.word(0, 9));
    }

    // Words: "at most 100, numbered as they come"; 16: "or there are 100"
    private static void tellAtMost100() {
        NoonWords x = House.inn(2);
        for (int k = 0; k < 99; k++) {
            x.tell(0, 1, 0, 1, 0);
        }
        Check.is("16: the last", 99, x.tell(1, 0, 1, 1, 0));
        Check.calm("16", x, () -> {
            Check.state("16: there are 100", () -> x.tell(0, 1, 0, 1, 0));
            Check.argument("16: an argument is told first", () -> x.tell(0, 1, 0, 0, 0));
            Check.none("16: no such broker is told first", () -> x.tell(0, 2, 0, 1, 0));
        });
        Check.is("20: the last", 1, x.word(99, 0));
        Check.none("20: there is no next one", () -> x.word(100, 0));
    }

    // Words: "READY is a WORD on NOW and LAG together; its STOP is then READY and DIES together."
    private static void readyAndStop() {
        NoonWords x = house();
        Check.text(x, "dies 0;", 1, 0);
        x.go(7);
        x.tell(0, 2, 0, 10, 0);
        Check.is("20: ready", 13, x.word(0, 4));
        Check.is("20: it dies by 1 at least", 14, x.word(0, 5));
        Check.text(x, "dies 501;", 1, 0);
        x.tell(0, 2, 0, 10, 0);
        Check.is("20: by 500 at most", 513, x.word(1, 5));
        House.days(x, 992);
        x.tell(0, 1, 0, 10, 0);
        Check.is("20: ready behind the last day", 1002, x.word(2, 4));
        Check.is("20: stop behind the last day", 1502, x.word(2, 5));
        Check.is("20: told", 0, x.word(2, 6));
        Check.calm("17", x, () -> Check.state("17: never ready", () -> x.pay(2, 0)));
    }

    // Words: "READY isn't above NOW"
    private static void payReady() {
        NoonWords x = house();
        x.tell(0, 1, 0, 10, 7);
        x.go(2);
        Check.calm("17", x, () -> {
            Check.state("17: a day early", () -> x.pay(0, 7));
            Check.state("17: whatever the secret", () -> x.pay(0, 8));
        });
        x.go(1);
        Check.is("17: that day", 1, x.pay(0, 7));
    }

    // Words: "STOP is" (above NOW)
    private static void payStop() {
        NoonWords x = house();
        Check.text(x, "dies 2;", 1, 0);
        x.tell(0, 1, 0, 10, 7);
        x.tell(0, 1, 0, 10, 7);
        x.go(4);
        Check.is("17: the last day", 1, x.pay(0, 7));
        x.go(1);
        Check.calm("17", x, () -> {
            Check.state("17: a day late", () -> x.pay(1, 7));
            Check.state("17: whatever the secret", () -> x.pay(1, 8));
        });
    }

    // Words: "has as many in its DRAWER"
    private static void payDrawer() {
        NoonWords x = house();
        x.tell(0, 1, 1, 10, 7);
        x.go(3);
        x.put(1, 1, 9);
        Check.calm("17", x, () -> {
            Check.state("17: one less", () -> x.pay(0, 7));
            Check.state("17: one less, whatever the secret", () -> x.pay(0, 8));
        });
        x.put(1, 1, 1);
        Check.is("17: as many", 1, x.pay(0, 7));
        Check.is("17: none is left", 0, x.drawer(1, 1));
        Check.is("17: another coin is not asked", 1000, x.drawer(1, 0));
    }

    // Words: "the payer has not FALLEN" (the teller may have)
    private static void payHasFallen() {
        NoonWords x = house();
        x.tell(0, 1, 0, 10, 7);
        x.tell(2, 1, 0, 10, 7);
        x.go(3);
        x.falls(2);
        Check.is("17: the teller fell, not heard yet", 1, x.pay(1, 7));
        x.falls(1);
        Check.calm("17", x, () -> Check.state("17: the payer has fallen", () -> x.pay(0, 7)));
    }

    // Words: "if it isn't yet"
    private static void payOnce() {
        NoonWords x = house();
        x.tell(0, 1, 0, 10, 7);
        x.go(3);
        x.pay(0, 7);
        Check.calm("17", x, () -> {
            Check.state("17: paid", () -> x.pay(0, 7));
            Check.state("17: paid, whatever the secret", () -> x.pay(0, 8));
        });
    }

    // 17: "NoSuchElementException: no such WORD (as below)"
    private static void payNoSuchWord() {
        NoonWords x = house();
        Check.none("17: none at all", () -> x.pay(0, 7));
        x.tell(0, 1, 0, 10, 7);
        x.go(3);
        Check.calm("17", x, () -> {
            Check.none("17: below 0", () -> x.pay(-1, 7));
            Check.none("17: the next one", () -> x.pay(1, 7));
            Check.none("18: below 0", () -> x.back(-1));
            Check.none("18: the next one", () -> x.back(1));
            Check.none("19: below 0", () -> x.twin(-1, 2));
            Check.none("19: the next one", () -> x.twin(1, 2));
            Check.none("19: a broker below 0", () -> x.twin(0, -1));
            Check.none("19: the next broker", () -> x.twin(0, 5));
        });
    }

    // 17: "a SECRET (any number): 0 it is wrong"; "By a wrong SECRET nothing is paid"
    private static void wrongSecrets() {
        int[] wrong = {6, 8, 0, -7, 7 + 32768, 7 + 65536, 7 | MIN, MIN, MAX};
        for (int secret : wrong) {
            NoonWords x = house();
            x.tell(0, 1, 0, 10, 7);
            x.go(3);
            Check.is("17: wrong: " + secret, 0, x.pay(0, secret));
            Check.is("20: one wrong", 1, x.word(0, 7));
            Check.is("17: nothing is paid", 1000, x.drawer(1, 0));
            Check.is("17: no entry", 0, x.count(6));
            Check.is("20: told yet", 0, x.word(0, 6));
            Check.is("20: stop as it was", 63, x.word(0, 5));
            Check.is("17: the right one yet", 1, x.pay(0, 7));
        }
    }

    // Words: "the third of these: STOP is NOW"
    private static void thirdWrongSecret() {
        NoonWords x = house();
        x.tell(0, 1, 0, 10, 7);
        x.tell(0, 1, 0, 10, 7);
        x.go(4);
        x.pay(0, 8);
        x.go(1);
        x.pay(0, 8);
        Check.is("20: not by the second", 63, x.word(0, 5));
        x.go(1);
        Check.is("17: the third", 0, x.pay(0, 9));
        Check.is("20: stop is now", 6, x.word(0, 5));
        Check.is("20: three", 3, x.word(0, 7));
        Check.is("20: dead", 3, x.word(0, 6));
        Check.calm("17", x, () -> {
            Check.state("17: not by the right one any more", () -> x.pay(0, 7));
            Check.state("17: nor by a fourth wrong one", () -> x.pay(0, 8));
        });
        Check.is("20: another word has none", 0, x.word(1, 7));
        Check.is("17: another word may be paid", 1, x.pay(1, 7));
    }

    // Words: "if it is later": the last day on which it can be paid
    private static void thirdOfAStopThatIsNow() {
        NoonWords x = house();
        Check.text(x, "dies 1;", 1, 0);
        x.tell(0, 1, 0, 10, 7);
        x.go(3);
        x.pay(0, 8);
        x.pay(0, 8);
        Check.is("20: stop is the next day", 4, x.word(0, 5));
        x.pay(0, 8);
        Check.is("20: stop is now", 3, x.word(0, 5));
        x.go(5);
        Check.is("20: stop stays", 3, x.word(0, 5));
    }

    // 17: "or there are 400 ENTRIES (even if none would come)"
    private static void pay400Entries() {
        NoonWords x = house();
        x.tell(0, 1, 0, 10, 7);
        x.tell(0, 1, 0, 10, 7);
        x.twin(1, 3);
        x.go(3);
        x.pay(1, 7);
        House.fill(x, 1, 2, 398);
        Check.is("6: 399", 399, x.count(6));
        Check.is("17: the last one", 1, x.pay(0, 7));
        Check.is("17: 400", 400, x.count(6));
        Check.is("20: the twin is dead", 3, x.word(2, 6));
        NoonWords y = house();
        y.tell(0, 1, 0, 10, 7);
        y.twin(0, 2);
        y.tell(0, 1, 0, 10, 7);
        y.go(6);
        y.pay(1, 7);
        House.fill(y, 1, 2, 398);
        Check.is("17: with 399 one without an entry", 2, y.pay(0, 7));
        House.fill(y, 1, 2, 1);
        Check.calm("17", y, () -> {
            Check.state("17: there are 400", () -> y.pay(2, 7));
            Check.state("17: there are 400, whatever the secret", () -> y.pay(2, 8));
        });
        NoonWords z = house();
        z.tell(0, 1, 0, 10, 7);
        z.twin(0, 2);
        z.go(6);
        z.pay(1, 7);
        House.fill(z, 1, 2, 399);
        Check.calm("17", z, () -> Check.state("17: even if none would come", () -> z.pay(0, 7)));
    }

    // 17: "1 PAID, with an ENTRY; 2 PAID without one (the LOSS is the payer's)"
    private static void payTwice() {
        for (int turn = 0; turn < 2; turn++) {
            NoonWords x = house();
            if (turn == 1) {
                Check.text(x, "loss teller unless n=10 and coin=0 and to=2;", 1, 0);
            }
            x.tell(0, 1, 0, 10, 7);
            x.twin(0, 2);
            x.go(6);
            Check.is("17: the first", 1, x.pay(turn == 0 ? 0 : 1, 7));
            Check.is("17: the second, by loss", turn == 0 ? 2 : 1, x.pay(turn == 0 ? 1 : 0, 7));
            Check.is("17: it leaves both drawers", 1980, x.drawer(1, 0) + x.drawer(2, 0));
            Check.is("17: entries", turn == 0 ? 1 : 2, x.count(6));
            Check.is("20: both are paid", 2, x.word(0, 6) + x.word(1, 6));
            Check.is("21: to the first", 10, x.owes(0, 1, 0));
            Check.is("21: to the second", turn == 0 ? 0 : 10, x.owes(0, 2, 0));
        }
    }

    // Words: "STOP of that other one is the first DAY on which this is HEARD in its payer's TOWN"
    private static void otherStopsWhenHeard() {
        NoonWords x = house();
        x.tell(0, 1, 0, 10, 7);
        x.twin(0, 2);
        x.go(6);
        x.pay(0, 7);
        Check.is("20: stop", 9, x.word(1, 5));
        x.go(2);
        Check.is("20: told a day ahead", 0, x.word(1, 6));
        x.go(1);
        Check.is("20: dead that day", 3, x.word(1, 6));
        Check.calm("17", x, () -> Check.state("17: that day", () -> x.pay(1, 7)));
        NoonWords y = house();
        y.tell(0, 1, 0, 10, 7);
        y.twin(0, 2);
        y.go(6);
        y.pay(0, 7);
        y.go(2);
        Check.is("17: a day ahead", 2, y.pay(1, 7));
        NoonWords z = house();
        z.tell(0, 1, 0, 10, 7);
        z.twin(0, 3);
        z.go(3);
        z.pay(1, 7);
        Check.is("20: in one town at once", 3, z.word(0, 5));
        Check.calm("17", z, () -> Check.state("17: at once", () -> z.pay(0, 7)));
    }

    // Words: "if STOP is later"
    private static void otherStopsIfLater() {
        int[] dies = {2, 3, 4};
        for (int die : dies) {
            NoonWords x = house();
            Check.text(x, "dies " + die + " unless to=1;", 1, 0);
            x.tell(0, 1, 0, 10, 7);
            x.twin(0, 2);
            x.go(6);
            x.pay(0, 7);
            Check.is("20: stop by 6 and " + die, Math.min(9, 6 + die), x.word(1, 5));
            Check.is("20: stop of the paid one", 63, x.word(0, 5));
        }
    }

    // Words: "TAKEN BACK is a WORD .. by its teller, once"
    private static void backOnce() {
        NoonWords x = house();
        x.tell(0, 1, 0, 10, 7);
        x.tell(0, 1, 0, 10, 7);
        Check.is("18: taken back", 1, x.back(0));
        Check.is("18: it leaves the drawer", 10, x.drawer(0, 0));
        Check.calm("18", x, () -> Check.state("18: once", () -> x.back(0)));
        Check.is("18: another one", 1, x.back(1));
        Check.is("18: none is left", 0, x.drawer(0, 0));
    }

    // Words: "and its DRAWER has the number: it leaves the DRAWER (FEE stays)"
    private static void backDrawer() {
        NoonWords x = house();
        Check.text(x, "fee 3;", 1, 0);
        x.tell(0, 1, 1, 10, 7);
        x.put(0, 1, -4);
        x.put(0, 0, 99);
        Check.calm("18", x, () -> Check.state("18: one less", () -> x.back(0)));
        x.put(0, 1, 1);
        Check.is("18: as many", 1, x.back(0));
        Check.is("18: none is left", 0, x.drawer(0, 1));
        NoonWords y = house();
        Check.text(y, "fee 3;", 1, 0);
        y.tell(0, 1, 1, 10, 7);
        y.back(0);
        Check.is("18: the fee stays", 3, y.drawer(0, 1));
    }

    // Words: "if the teller has not FALLEN"
    private static void backHasFallen() {
        NoonWords x = house();
        x.tell(0, 1, 0, 10, 7);
        x.tell(2, 1, 0, 10, 7);
        x.falls(0);
        x.falls(1);
        Check.calm("18", x, () -> Check.state("18: the teller has", () -> x.back(0)));
        Check.is("18: the payer may have", 1, x.back(1));
    }

    // Words: "none of its COUPLE is PAID as HEARD in the teller's TOWN NOW"; 18: "0 if one .. was PAID already"
    private static void backHeard() {
        for (int late = 0; late < 2; late++) {
            NoonWords x = house();
            x.tell(0, 1, 0, 10, 7);
            x.go(5);
            x.pay(0, 7);
            x.go(2 + late);
            if (late == 0) {
                Check.is("18: paid, a day ahead", 0, x.back(0));
                Check.is("18: it leaves the drawer", 0, x.drawer(0, 0));
                Check.is("20: paid", 1, x.word(0, 6));
            } else {
                Check.calm("18", x, () -> Check.state("18: paid, heard that day", () -> x.back(0)));
            }
            NoonWords y = house();
            y.tell(0, 1, 0, 10, 7);
            y.twin(0, 2);
            y.go(6);
            y.pay(1, 7);
            y.go(5 + late);
            if (late == 0) {
                Check.is("18: its twin, a day ahead", 0, y.back(0));
                Check.is("20: taken back", 2, y.word(0, 6));
                Check.is("20: its twin is paid", 1, y.word(1, 6));
            } else {
                Check.calm("18", y, () -> Check.state("18: its twin, heard that day", () -> y.back(0)));
            }
        }
        NoonWords z = house();
        z.tell(1, 3, 0, 10, 7);
        z.pay(0, 7);
        Check.calm("18", z, () -> Check.state("18: in one town at once", () -> z.back(0)));
    }

    // Words: "(no TWIN)"
    private static void backOfATwin() {
        NoonWords x = house();
        x.tell(0, 1, 0, 10, 7);
        x.twin(0, 2);
        Check.calm("18", x, () -> Check.state("18: a twin", () -> x.back(1)));
        x.back(0);
        Check.is("20: with the word its twin", 2, x.word(1, 6));
        Check.calm("18", x, () -> Check.state("18: a twin of one that was", () -> x.back(1)));
    }

    // Words: what is TAKEN BACK needn't be TOLD yet
    private static void backOfADeadOne() {
        NoonWords x = house();
        x.tell(0, 1, 0, 10, 7);
        x.go(63);
        Check.is("20: dead", 3, x.word(0, 6));
        Check.is("18: taken back", 1, x.back(0));
        Check.is("20: taken back", 2, x.word(0, 6));
        Check.is("20: stop as it was", 63, x.word(0, 5));
    }

    // Words: "STOP of it and of its TWIN, of each that isn't PAID, is the first DAY .., if STOP is later"
    private static void backStopsIfLater() {
        NoonWords x = house();
        Check.text(x, "dies 2 unless to=1;", 1, 0);
        x.tell(0, 1, 0, 10, 7);
        x.twin(0, 2);
        x.go(1);
        x.back(0);
        Check.is("20: its own", 4, x.word(0, 5));
        Check.is("20: its twin's", 7, x.word(1, 5));
        NoonWords y = house();
        Check.text(y, "dies 2 unless to=1;", 1, 0);
        y.tell(0, 1, 0, 10, 7);
        y.twin(0, 2);
        y.go(4);
        y.back(0);
        Check.is("20: its own", 7, y.word(0, 5));
        Check.is("20: its twin's is not later", 8, y.word(1, 5));
        NoonWords z = house();
        z.tell(0, 1, 0, 10, 7);
        z.twin(0, 2);
        z.go(6);
        z.pay(0, 7);
        z.back(0);
        Check.is("20: of a paid one as it was", 63, z.word(0, 5));
        Check.is("20: of its twin, by the payment", 9, z.word(1, 5));
    }

    // Words: "(till then it may be PAID yet)"
    private static void backTillThen() {
        for (int late = 0; late < 2; late++) {
            NoonWords x = house();
            x.tell(0, 1, 0, 10, 7);
            x.go(2);
            x.back(0);
            x.go(2 + late);
            if (late == 0) {
                Check.is("17: a day ahead", 1, x.pay(0, 7));
                Check.is("20: paid ahead of taken back", 1, x.word(0, 6));
                Check.is("21: owed", 10, x.owes(0, 1, 0));
            } else {
                Check.calm("17", x, () -> Check.state("17: that day", () -> x.pay(0, 7)));
                Check.is("20: taken back ahead of dead", 2, x.word(0, 6));
            }
        }
    }

    // 19: "that BROKER is its teller or payer" ("a third BROKER")
    private static void twinThirdBroker() {
        NoonWords x = house();
        x.tell(0, 1, 0, 10, 7);
        Check.calm("19", x, () -> {
            Check.state("19: its teller", () -> x.twin(0, 0));
            Check.state("19: its payer", () -> x.twin(0, 1));
        });
        Check.is("19: another one in the payer's town", 1, x.twin(0, 3));
        Check.is("20: ready alike", 3, x.word(1, 4));
    }

    // 19: "the WORD is, or has, a TWIN"
    private static void twinHasOne() {
        NoonWords x = house();
        x.tell(0, 1, 0, 10, 7);
        x.twin(0, 2);
        Check.calm("19", x, () -> {
            Check.state("19: it has one", () -> x.twin(0, 3));
            Check.state("19: it is one", () -> x.twin(1, 3));
        });
        Check.is("20: each is the other's", 1, x.word(0, 8));
        Check.is("20: each is the other's", 0, x.word(1, 8));
    }

    // 19: "or its STOP isn't above NOW"
    private static void twinStop() {
        for (int late = 0; late < 2; late++) {
            NoonWords x = house();
            x.tell(0, 1, 0, 10, 7);
            x.go(62 + late);
            if (late == 0) {
                Check.is("19: a day ahead", 1, x.twin(0, 2));
                Check.is("20: ready", 68, x.word(1, 4));
                Check.is("20: stop", 128, x.word(1, 5));
            } else {
                Check.calm("19", x, () -> Check.state("19: that day", () -> x.twin(0, 2)));
            }
        }
        NoonWords y = house();
        y.tell(0, 1, 0, 10, 7);
        y.go(3);
        y.pay(0, 1);
        y.pay(0, 1);
        y.pay(0, 1);
        Check.calm("19", y, () -> Check.state("19: by three wrong secrets", () -> y.twin(0, 2)));
        NoonWords z = house();
        Check.text(z, "dies 1;", 1, 0);
        z.tell(0, 1, 0, 10, 7);
        z.go(3);
        z.pay(0, 7);
        z.go(1);
        Check.calm("19", z, () -> Check.state("19: of a paid one, too", () -> z.twin(0, 2)));
    }

    // 19: "is PAID as HEARD in the teller's TOWN NOW, was TAKEN BACK"
    private static void twinHeardOrTakenBack() {
        for (int late = 0; late < 2; late++) {
            NoonWords x = house();
            x.tell(0, 1, 0, 10, 7);
            x.go(5);
            x.pay(0, 7);
            x.go(2 + late);
            if (late == 0) {
                Check.is("19: a day ahead", 1, x.twin(0, 2));
                Check.is("20: stop by what is heard", 8, x.word(1, 5));
            } else {
                Check.calm("19", x, () -> Check.state("19: heard that day", () -> x.twin(0, 2)));
            }
        }
        NoonWords y = house();
        y.tell(0, 1, 0, 10, 7);
        y.back(0);
        Check.calm("19", y, () -> Check.state("19: was taken back", () -> y.twin(0, 2)));
    }

    // 19: "it or the teller has FALLEN"
    private static void twinHasFallen() {
        NoonWords x = house();
        x.tell(0, 1, 0, 10, 7);
        x.tell(2, 1, 0, 10, 7);
        x.falls(2);
        Check.calm("19", x, () -> {
            Check.state("19: it has", () -> x.twin(0, 2));
            Check.state("19: the teller has", () -> x.twin(1, 3));
        });
        x.falls(1);
        Check.is("19: the payer may have", 2, x.twin(0, 3));
    }

    // 19: "there is no LAG to its TOWN"
    private static void twinLag() {
        NoonWords x = house();
        x.tell(0, 1, 0, 10, 7);
        Check.calm("19", x, () -> Check.state("19: none", () -> x.twin(0, 4)));
        x.road(3, 0, 1);
        Check.is("19: one", 1, x.twin(0, 4));
        Check.is("20: ready", 1, x.word(1, 4));
        Check.is("20: stop", 61, x.word(1, 5));
    }

    // 19: "there are 100"
    private static void twinAtMost100() {
        NoonWords x = House.inn(3);
        for (int k = 0; k < 98; k++) {
            x.tell(0, 1, 0, 1, 0);
        }
        Check.is("19: 99", 98, x.twin(0, 2));
        Check.is("19: 100", 99, x.twin(97, 2));
        Check.calm("19", x, () -> Check.state("19: there are 100", () -> x.twin(1, 2)));
        Check.is("20: it has none", -1, x.word(1, 8));
        Check.is("20: the last one", 97, x.word(99, 8));
    }

    // Words: "if the WORD is PAID already, its STOP is the first DAY on which that is HEARD .., if STOP is later"
    private static void twinOfAPaidOne() {
        int[] dies = {1, 2, 3};
        for (int die : dies) {
            NoonWords x = house();
            x.road(0, 2, 1);
            Check.text(x, "dies " + die + " unless to=1;", 1, 0);
            x.tell(0, 1, 0, 10, 7);
            x.go(3);
            x.pay(0, 7);
            x.go(2);
            x.twin(0, 2);
            Check.is("20: ready", 6, x.word(1, 4));
            // Heard on 3 and 3 days.
            Check.is("20: stop by " + die, 6, x.word(1, 5));
            Check.is("20: nothing comes into the drawer", 10, x.drawer(0, 0));
        }
        NoonWords y = house();
        y.road(0, 2, 1);
        y.road(1, 2, 9);
        y.tell(0, 1, 0, 10, 7);
        y.go(3);
        y.pay(0, 7);
        y.go(2);
        Check.text(y, "dies 2;", 1, 0);
        y.twin(0, 2);
        // Heard by town 0 on 3 and 4 days, STOP is 8 by DIES.
        Check.is("20: the first day on which it is heard", 7, y.word(1, 5));
        NoonWords z = house();
        z.tell(0, 1, 0, 10, 7);
        z.go(3);
        z.pay(0, 7);
        Check.text(z, "dies 1;", 1, 0);
        z.go(2);
        z.road(0, 2, 1);
        z.road(0, 1, 9);
        z.road(1, 2, 9);
        z.twin(0, 2);
        // Heard on 3 and 9 days; ready on 6, it dies on 7.
        Check.is("20: not if stop isn't later", 7, z.word(1, 5));
    }

    // 20: "IllegalArgumentException: another what."
    private static void wordArguments() {
        NoonWords x = house();
        Check.none("20: none at all", () -> x.word(0, 0));
        x.tell(0, 1, 2, 10, 7);
        int[] due = {0, 1, 2, 10, 3, 63, 0, 0, -1, 0};
        for (int what = 0; what < 10; what++) {
            Check.is("20: what " + what, due[what], x.word(0, what));
        }
        Check.argument("20: what -1", () -> x.word(0, -1));
        Check.argument("20: what 10", () -> x.word(0, 10));
        Check.none("20: below 0", () -> x.word(-1, 0));
        Check.none("20: the next one", () -> x.word(1, 0));
        Check.none("20: told first", () -> x.word(1, 10));
    }

    // Words: "PAID (1), if it was; else TAKEN BACK (2) ..; else DEAD (3), if STOP isn't above NOW; else TOLD (0)"
    private static void wordStates() {
        NoonWords x = house();
        for (int k = 0; k < 4; k++) {
            x.tell(0, 1, 0, 10, 7);
        }
        x.back(3);
        x.go(2);
        Check.is("20: taken back, stop to come", 2, x.word(3, 6));
        x.go(1);
        x.pay(0, 7);
        Check.is("20: taken back, stop is now", 2, x.word(3, 6));
        x.go(59);
        Check.is("20: told the last day", 0, x.word(1, 6));
        x.go(1);
        Check.is("20: dead the next", 3, x.word(1, 6));
        Check.is("20: paid for ever", 1, x.word(0, 6));
        Check.is("20: taken back for ever", 2, x.word(3, 6));
        x.back(2);
        Check.is("20: taken back, though it was dead", 2, x.word(2, 6));
    }

    // Words: "(ROADS told later alter no READY and no STOP)"
    private static void roadsToldLater() {
        NoonWords x = house();
        x.tell(0, 1, 0, 10, 7);
        x.twin(0, 2);
        x.go(6);
        x.pay(0, 7);
        x.road(0, 1, 9);
        x.road(1, 2, 1);
        Check.is("20: ready", 3, x.word(0, 4));
        Check.is("20: stop", 63, x.word(0, 5));
        Check.is("20: ready of its twin", 6, x.word(1, 4));
        Check.is("20: stop of its twin", 9, x.word(1, 5));
        x.go(2);
        Check.is("17: paid as it was told", 2, x.pay(1, 7));
    }
}
