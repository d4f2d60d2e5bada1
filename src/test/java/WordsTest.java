/** Promises 16 to 20: tell, pay, back, twin, word. */
public final class WordsTest {
    public static void main(String[] args) {
        tellArguments();
        tellLimits();
        tellBound();
        tellMany();
        pay();
        wrongSecrets();
        payLimits();
        coupleHears();
        losses();
        back();
        backOfACouple();
        twin();
        twinOfAPaidOne();
        roadsLater();
        word();
        Check.end();
    }

    /** Towns 0, 1, 2 with 0 to 1 in 2 days and 0 to 2 in 5; a broker in each, and one in a town without roads. */
    private static NoonWords house() {
        NoonWords x = new NoonWords();
        for (int k = 0; k < 4; k++) {
            x.town();
        }
        x.road(0, 1, 2);
        x.road(0, 2, 5);
        for (int k = 0; k < 4; k++) {
            x.broker(k, k);
        }
        x.put(1, 1, 1000);
        x.put(2, 1, 1000);
        return x;
    }

    private static void tellArguments() {
        NoonWords x = house();
        Check.none("16: no such teller", () -> x.tell(4, 4, 9, 0, 0));
        Check.none("16: no such payer", () -> x.tell(0, -1, 0, 1, 0));
        Check.argument("16: both are one", () -> x.tell(0, 0, 0, 1, 0));
        Check.argument("16: the coin", () -> x.tell(0, 1, 4, 1, 0));
        Check.argument("16: the coin", () -> x.tell(0, 1, -1, 1, 0));
        Check.argument("16: the number", () -> x.tell(0, 1, 0, 0, 0));
        Check.argument("16: the number", () -> x.tell(0, 1, 0, 100001, 0));
        Check.argument("16: the secret", () -> x.tell(0, 1, 0, 1, -1));
        Check.argument("16: the secret", () -> x.tell(0, 1, 0, 1, 32768));
        Check.argument("16: an argument comes first", () -> x.tell(0, 3, 0, 0, 0));
        Check.state("16: no lag", () -> x.tell(0, 3, 0, 1, 0));
        Check.is("16: no word", 0, x.count(5));
        Check.is("16: nothing came", 0, x.drawer(0, 0));
        Check.is("16: least", 0, x.tell(0, 1, 0, 1, 0));
        Check.is("16: most", 1, x.tell(0, 1, 0, 100000, 32767));
        Check.is("16: the number came", 100001, x.drawer(0, 0));
    }

    private static void tellLimits() {
        NoonWords x = house();
        Check.text(x, "ban unless n<10;fee n/2;dies 7 unless coin=0;", 1, 0);
        Check.state("16: a ban", () -> x.tell(0, 1, 1, 10, 0));
        Check.is("16: no ban", 0, x.tell(0, 1, 1, 9, 0));
        Check.is("16: number and fee", 13, x.drawer(0, 1));
        Check.is("20: fee", 4, x.word(0, 9));
        Check.is("20: ready", 2, x.word(0, 4));
        Check.is("20: stop", 9, x.word(0, 5));
        Check.is("16: no custom there", 1, x.tell(1, 0, 1, 10, 0));
        Check.is("20: stop by 60", 62, x.word(1, 5));
        x.put(0, 2, 9999999);
        x.tell(0, 1, 2, 8, 0);
        Check.is("16: above all is gone", 10000000, x.drawer(0, 2));
        Check.is("20: fee yet", 4, x.word(2, 9));
        x.falls(2);
        Check.state("16: the payer has fallen", () -> x.tell(0, 2, 1, 1, 0));
        Check.state("16: the teller has fallen", () -> x.tell(2, 0, 1, 1, 0));
    }

    private static void tellBound() {
        NoonWords x = house();
        Check.text(x, "bound 300;", 1, 0);
        x.rate(0, 1, 150);
        x.goods(1, 0, 1, 0, 1, 101);
        x.goods(1, 0, 0, 0, 1, 99);
        // 101 of coin 1 are worth 151, 99 of coin 0 are worth 99, so 50 are left: 33 of coin 1 are worth 49, 34 are 51.
        Check.state("16: above the bound", () -> x.tell(0, 1, 1, 34, 0));
        Check.is("16: not above it", 0, x.tell(0, 1, 1, 33, 0));
        Check.is("16: words don't count, debts do", 1, x.tell(0, 1, 0, 50, 0));
        Check.state("16: above by one", () -> x.tell(0, 1, 0, 51, 0));
        Check.is("16: another payer", 2, x.tell(0, 2, 0, 300, 0));
        x.goods(0, 1, 2, 0, 1, 500);
        Check.is("16: below 0 it counts, too", 3, x.tell(0, 1, 0, 550, 0));
        Check.state("16: above by one", () -> x.tell(0, 1, 0, 551, 0));
    }

    private static void tellMany() {
        NoonWords x = house();
        for (int k = 0; k < 100; k++) {
            Check.is("16: its number", k, x.tell(0, 1, 0, 1, 0));
        }
        Check.state("16: there are 100", () -> x.tell(0, 1, 0, 1, 0));
        Check.argument("16: an argument comes first", () -> x.tell(0, 1, 0, 0, 0));
        Check.state("19: there are 100", () -> x.twin(0, 2));
        Check.is("20: no other", -1, x.word(0, 8));
    }

    private static void pay() {
        NoonWords x = house();
        Check.none("17: no such word", () -> x.pay(0, 0));
        x.tell(0, 1, 1, 300, 9);
        x.tell(0, 1, 1, 800, 8);
        Check.none("17: no such word", () -> x.pay(-1, 9));
        x.go(1);
        Check.state("17: not ready", () -> x.pay(0, 9));
        Check.state("17: not ready, whatever the secret", () -> x.pay(0, 1));
        Check.is("17: no wrong secret then", 0, x.word(0, 7));
        x.go(1);
        Check.is("17: paid", 1, x.pay(0, 9));
        Check.is("17: it leaves the drawer", 700, x.drawer(1, 1));
        Check.is("17: the teller owes it", 300, x.owes(0, 1, 1));
        int[] entry = {2, 1, 0, 1, 1, 300, 0};
        for (int what = 0; what < 7; what++) {
            Check.is("17: the entry, " + what, entry[what], x.entry(0, what));
        }
        Check.state("17: paid already", () -> x.pay(0, 9));
        Check.state("17: not enough in the drawer", () -> x.pay(1, 8));
        x.put(1, 1, 100);
        x.go(59);
        Check.is("17: the last day", 1, x.pay(1, 8));
        Check.is("17: the drawer is empty", 0, x.drawer(1, 1));
        x.tell(0, 1, 1, 1, 7);
        x.put(1, 1, 1);
        x.go(62);
        Check.state("17: it is dead", () -> x.pay(2, 7));
        x.tell(0, 1, 1, 1, 7);
        x.go(2);
        x.falls(1);
        Check.state("17: the payer has fallen", () -> x.pay(3, 7));
    }

    private static void wrongSecrets() {
        NoonWords x = house();
        x.tell(0, 1, 1, 300, 9);
        x.go(2);
        Check.is("17: wrong", 0, x.pay(0, 8));
        Check.is("17: any number is said", 0, x.pay(0, Integer.MIN_VALUE));
        Check.is("20: two wrong ones", 2, x.word(0, 7));
        Check.is("20: stop yet", 62, x.word(0, 5));
        Check.is("20: told yet", 0, x.word(0, 6));
        Check.is("17: wrong", 0, x.pay(0, 32768 + 9));
        Check.is("20: stop", 2, x.word(0, 5));
        Check.is("20: dead", 3, x.word(0, 6));
        Check.state("17: too late", () -> x.pay(0, 9));
        Check.is("20: three", 3, x.word(0, 7));
        Check.is("17: nothing left the drawer", 1000, x.drawer(1, 1));
        Check.is("17: no entry", 0, x.count(6));
        x.tell(0, 1, 1, 300, 9);
        x.go(2);
        x.pay(1, 0);
        x.pay(1, 0);
        Check.is("17: right behind two wrong ones", 1, x.pay(1, 9));
    }

    private static void payLimits() {
        NoonWords x = house();
        x.tell(0, 1, 1, 10, 9);
        x.twin(0, 2);
        x.go(2);
        for (int k = 0; k < 399; k++) {
            x.goods(1, 0, 0, 0, 1, 0);
        }
        Check.is("17: the last entry", 1, x.pay(0, 9));
        x.go(3);
        Check.state("17: 400 entries, even if none would come", () -> x.pay(1, 9));
        Check.state("17: 400 entries, even by a wrong secret", () -> x.pay(1, 8));
        Check.is("20: no wrong secret", 0, x.word(1, 7));
    }

    private static void coupleHears() {
        NoonWords x = house();
        x.tell(0, 1, 1, 300, 9);
        x.twin(0, 2);
        x.go(5);
        Check.is("17: the twin is paid", 1, x.pay(1, 9));
        Check.is("20: stop of the other, by its payer's town", 12, x.word(0, 5));
        Check.is("20: stop of the paid one", 65, x.word(1, 5));
        x.go(6);
        Check.is("17: paid twice, no entry", 2, x.pay(0, 9));
        Check.is("17: it left the drawer", 700, x.drawer(1, 1));
        Check.is("17: one entry", 1, x.count(6));
        Check.is("17: to the first", 300, x.owes(0, 2, 1));
        Check.is("17: none to the second", 0, x.owes(0, 1, 1));
        Check.is("20: paid", 1, x.word(0, 6));

        NoonWords y = house();
        y.tell(0, 1, 1, 300, 9);
        y.twin(0, 2);
        y.go(5);
        y.pay(0, 9);
        y.go(7);
        Check.state("17: heard of by then", () -> y.pay(1, 9));
        Check.is("20: dead", 3, y.word(1, 6));

        NoonWords z = house();
        z.broker(1, 0);
        z.tell(0, 1, 1, 3, 9);
        z.twin(0, 4);
        z.put(4, 1, 3);
        z.go(2);
        z.pay(0, 9);
        Check.is("20: in one town at once", 2, z.word(1, 5));
        Check.state("17: at once", () -> z.pay(1, 9));
    }

    private static void losses() {
        NoonWords x = house();
        Check.text(x, "loss teller unless to=2 or n<300 or coin=0;", 1, 0);
        Check.text(x, "loss teller;", 254, 0);
        x.tell(0, 1, 1, 300, 9);
        x.twin(0, 2);
        x.go(5);
        x.pay(1, 9);
        Check.is("17: the loss is the teller's", 1, x.pay(0, 9));
        Check.is("17: both count", 300, x.owes(0, 1, 1));
        Check.is("17: both count", 300, x.owes(0, 2, 1));
        x.tell(0, 1, 1, 300, 9);
        x.twin(2, 2);
        x.go(5);
        x.pay(2, 9);
        Check.is("17: asked of this payer", 2, x.pay(3, 9));
        x.tell(0, 1, 1, 299, 9);
        x.twin(4, 2);
        x.go(5);
        x.pay(5, 9);
        Check.is("17: asked of the number", 2, x.pay(4, 9));
    }

    private static void back() {
        NoonWords x = house();
        Check.text(x, "fee 5;", 1, 0);
        Check.none("18: no such word", () -> x.back(0));
        x.tell(0, 1, 1, 300, 9);
        x.put(0, 1, -6);
        Check.state("18: not enough in the drawer", () -> x.back(0));
        x.put(0, 1, 6);
        x.go(1);
        Check.is("18: taken back", 1, x.back(0));
        Check.is("18: the fee stays", 5, x.drawer(0, 1));
        Check.is("20: taken back", 2, x.word(0, 6));
        Check.is("20: stop when it is heard", 3, x.word(0, 5));
        x.put(0, 1, 500);
        Check.state("18: once", () -> x.back(0));
        Check.state("19: was taken back", () -> x.twin(0, 2));
        x.go(1);
        Check.is("18: till then it may be paid yet", 1, x.pay(0, 9));
        Check.is("20: paid", 1, x.word(0, 6));
        x.tell(0, 1, 1, 100, 9);
        x.go(2);
        x.pay(1, 9);
        x.go(1);
        Check.is("18: paid already, not heard", 0, x.back(1));
        Check.is("20: stop of a paid one stays", 64, x.word(1, 5));
        x.tell(0, 1, 1, 100, 9);
        x.go(2);
        x.pay(2, 9);
        x.go(2);
        Check.state("18: paid as heard", () -> x.back(2));
        x.tell(0, 1, 1, 100, 9);
        x.go(80);
        Check.is("20: dead", 3, x.word(3, 6));
        Check.is("18: a dead one", 1, x.back(3));
        Check.is("20: stop not later", 71, x.word(3, 5));
        Check.is("20: taken back", 2, x.word(3, 6));
        x.tell(0, 1, 1, 100, 9);
        x.falls(0);
        Check.state("18: the teller has fallen", () -> x.back(4));
    }

    private static void backOfACouple() {
        NoonWords x = house();
        x.tell(0, 1, 1, 300, 9);
        x.twin(0, 2);
        Check.state("18: a twin", () -> x.back(1));
        x.go(1);
        Check.is("18: taken back", 1, x.back(0));
        Check.is("20: stop of both", 3, x.word(0, 5));
        Check.is("20: stop of both", 6, x.word(1, 5));
        Check.is("20: the twin, too", 2, x.word(1, 6));
        Check.state("18: a twin yet", () -> x.back(1));

        NoonWords y = house();
        y.tell(0, 1, 1, 300, 9);
        y.twin(0, 2);
        y.go(5);
        y.pay(1, 9);
        y.go(4);
        Check.is("20: stop of the other", 12, y.word(0, 5));
        Check.is("18: its twin was paid", 0, y.back(0));
        Check.is("20: stop of the other", 11, y.word(0, 5));
        Check.is("20: taken back", 2, y.word(0, 6));
        Check.is("20: the twin is paid", 1, y.word(1, 6));

        NoonWords z = house();
        z.tell(0, 1, 1, 300, 9);
        z.twin(0, 2);
        z.go(5);
        z.pay(1, 9);
        z.go(5);
        Check.state("18: its twin is paid as heard", () -> z.back(0));
    }

    private static void twin() {
        NoonWords x = house();
        Check.text(x, "dies 10+to;fee 3;ban unless day=0;bound 0 unless day=0;", 1, 0);
        Check.none("19: no such word", () -> x.twin(0, 2));
        x.tell(0, 1, 1, 300, 9);
        Check.none("19: no such broker", () -> x.twin(0, 4));
        Check.state("19: its teller", () -> x.twin(0, 0));
        Check.state("19: its payer", () -> x.twin(0, 1));
        Check.state("19: no lag", () -> x.twin(0, 3));
        x.go(1);
        Check.is("19: its number, whatever ban and bound", 1, x.twin(0, 2));
        int[] twin = {0, 2, 1, 300, 6, 18, 0, 0, 0, 0};
        for (int what = 0; what < 10; what++) {
            Check.is("20: the twin, " + what, twin[what], x.word(1, what));
        }
        Check.is("20: the other one", 1, x.word(0, 8));
        Check.is("19: nothing came", 303, x.drawer(0, 1));
        Check.state("19: it has one", () -> x.twin(0, 2));
        Check.state("19: it is one", () -> x.twin(1, 1));
        x.go(5);
        Check.is("19: the same secret", 1, x.pay(1, 9));

        NoonWords y = house();
        y.tell(0, 1, 1, 300, 9);
        y.go(61);
        Check.is("19: stop is above now", 1, y.twin(0, 2));
        y.tell(0, 1, 1, 300, 9);
        y.go(62);
        Check.state("19: stop isn't above now", () -> y.twin(2, 2));
        y.tell(0, 1, 1, 300, 9);
        y.falls(2);
        Check.state("19: it has fallen", () -> y.twin(3, 2));
        y.broker(1, 0);
        y.falls(0);
        Check.state("19: the teller has fallen", () -> y.twin(3, 4));
        NoonWords z = house();
        z.tell(0, 1, 1, 300, 9);
        z.falls(1);
        Check.is("19: the payer may have fallen", 1, z.twin(0, 2));
    }

    private static void twinOfAPaidOne() {
        NoonWords x = house();
        x.tell(0, 1, 1, 300, 9);
        x.go(2);
        x.pay(0, 9);
        x.go(1);
        Check.is("19: paid, not heard", 1, x.twin(0, 2));
        Check.is("20: ready", 8, x.word(1, 4));
        Check.is("20: stop when that is heard", 9, x.word(1, 5));
        x.go(5);
        Check.is("17: paid twice", 2, x.pay(1, 9));
        x.tell(0, 1, 1, 300, 9);
        x.go(2);
        x.pay(2, 9);
        x.go(2);
        Check.state("19: paid as heard", () -> x.twin(2, 2));

        NoonWords y = house();
        y.broker(1, 0);
        y.tell(0, 1, 1, 300, 9);
        y.go(2);
        y.pay(0, 9);
        y.go(1);
        y.twin(0, 4);
        Check.is("20: stop, heard in its town already", 2, y.word(1, 5));
        Check.is("20: dead from its first day on", 3, y.word(1, 6));
    }

    private static void roadsLater() {
        NoonWords x = house();
        x.tell(0, 1, 1, 300, 9);
        x.road(0, 1, 9);
        Check.is("20: ready as it was", 2, x.word(0, 4));
        Check.is("20: stop as it was", 62, x.word(0, 5));
        x.go(2);
        Check.is("17: paid", 1, x.pay(0, 9));
        x.go(2);
        x.put(0, 1, 300);
        Check.is("18: by roads as they are now, not heard", 0, x.back(0));
    }

    private static void word() {
        NoonWords x = house();
        x.tell(0, 1, 3, 55, 9);
        int[] word = {0, 1, 3, 55, 2, 62, 0, 0, -1, 0};
        for (int what = 0; what < 10; what++) {
            Check.is("20: what " + what, word[what], x.word(0, what));
        }
        Check.none("20: no such word", () -> x.word(1, 10));
        Check.argument("20: another what", () -> x.word(0, 10));
        Check.argument("20: another what", () -> x.word(0, -1));
        x.go(61);
        Check.is("20: told", 0, x.word(0, 6));
        x.go(1);
        Check.is("20: dead", 3, x.word(0, 6));
    }
}
