/** Promise 15, what is ASKED: sentences that name an edge, a wrap-around, a division by 0. */
public final class SaidEdgesTest {
    public static void main(String[] args) {
        theyMayBeOne();
        anyNumber();
        wayWithout();
        seasonsRoundedDown();
        kinOr0();
        dayIsNow();
        timeOfADay();
        fromAndTo();
        roundOn();
        towards0();
        itsRest();
        orAsFarAsNeeded();
        andAsFarAsNeeded();
        voidSaysNothing();
        unlessHolds();
        dividedBy0InItsSum();
        dividedBy0InItsUnless();
        notAskedIfItsUnlessHolds();
        theLastOneCounts();
        ofItsSort();
        inATownNow();
        lossOfTheLast();
        banIfOneSays();
        Check.end();
    }

    /** What a sum is, between -1,000 and 1,000, asked of brokers a and b. */
    private static int sum(NoonWords x, String sum, int a, int b, long n, int coin) {
        Check.is("12: " + sum, 1, Check.text(x, "rank far " + sum + ";", 255, 0));
        return x.said(a, b, n, coin, 5);
    }

    private static void sumIs(String sum, long n, int due) {
        Check.is("15: " + sum + " of " + n, due, sum(House.inn(1), sum, 0, 0, n, 0));
    }

    /** Whether a test holds, by a ban that says nothing then. */
    private static void holds(String test, long n, boolean due) {
        NoonWords x = House.inn(1);
        Check.is("12: " + test, 1, Check.text(x, "ban unless " + test + ";", 1, 0));
        Check.is("15: " + test + " of " + n, due ? 0 : 1, x.said(0, 0, n, 0, 8));
    }

    // Custom: "ASKED of two BROKERS a and b (they may be one)"
    private static void theyMayBeOne() {
        NoonWords x = House.row(2);
        Check.is("15: of one kin with itself", 1, sum(x, "kin", 1, 1, 0, 0));
        Check.is("15: no way to itself", 0, sum(x, "way", 1, 1, 0, 0));
    }

    // 15: "a number (any)"
    private static void anyNumber() {
        sumIs("n", 0, 0);
        sumIs("n", -1, -1);
        sumIs("n%1000", Long.MIN_VALUE, -808);
        sumIs("n%1000", Long.MAX_VALUE, 807);
        sumIs("n/999999/999999/999999", Long.MAX_VALUE, 9);
    }

    // Custom: "way, LAG from a's TOWN to b's (-1 without)"
    private static void wayWithout() {
        NoonWords x = House.row(2);
        x.town();
        x.broker(2, 0);
        Check.is("15: without", -1, sum(x, "way", 0, 2, 0, 0));
        Check.is("15: without, the other way", -1, x.said(2, 0, 0, 0, 5));
        Check.is("15: with", 3, x.said(0, 1, 0, 0, 5));
        x.road(1, 2, 9);
        Check.is("15: with roads now", 12, x.said(0, 2, 0, 0, 5));
    }

    // Custom: "seasons, of a"; Terms: "DAYS from the one on which it came to NOW, by 90, rounded down"
    private static void seasonsRoundedDown() {
        NoonWords x = House.inn(1);
        Check.is("15: at first", 0, sum(x, "seasons", 0, 0, 0, 0));
        x.go(1);
        int late = x.broker(0, 0);
        House.days(x, 88);
        Check.is("15: day 89", 0, x.said(0, late, 0, 0, 5));
        x.go(1);
        Check.is("15: day 90", 1, x.said(0, late, 0, 0, 5));
        Check.is("15: day 90 of one that came on day 1", 0, x.said(late, 0, 0, 0, 5));
        x.go(1);
        Check.is("15: day 91", 1, x.said(late, 0, 0, 0, 5));
        House.days(x, 898);
        Check.is("15: day 989", 10, x.said(0, 0, 0, 0, 5));
        x.go(1);
        Check.is("15: day 990", 11, x.said(0, 0, 0, 0, 5));
        Check.is("15: day 990 of one that came on day 1", 10, x.said(late, 0, 0, 0, 5));
        x.go(9);
        Check.is("15: the last day", 11, x.said(0, 0, 0, 0, 5));
        Check.is("15: one that came on the last day", 0, x.said(x.broker(0, 0), 0, 0, 0, 5));
    }

    // Custom: "kin 1 if both are of one KIN, else 0"
    private static void kinOr0() {
        NoonWords x = House.inn(7);
        Check.is("15: unlike kins", 0, sum(x, "kin", 0, 5, 0, 0));
        Check.is("15: kins next to each other", 0, x.said(0, 1, 0, 0, 5));
        Check.is("15: alike", 1, x.said(0, 6, 0, 0, 5));
        Check.is("15: alike, the other way", 1, x.said(6, 0, 0, 0, 5));
    }

    // Custom: "day, NOW"
    private static void dayIsNow() {
        NoonWords x = House.inn(1);
        Check.is("15: the first", 0, sum(x, "day", 0, 0, 0, 0));
        House.days(x, 999);
        Check.is("15: the last", 999, x.said(0, 0, 0, 0, 5));
    }

    // Custom: "time, of NOW by 90 the whole part's rest by 4"
    private static void timeOfADay() {
        NoonWords x = House.inn(1);
        Check.is("15: day 0", 0, sum(x, "time", 0, 0, 0, 0));
        int[] days = {89, 90, 179, 180, 269, 270, 359, 360, 449, 450, 719, 720, 989, 990, 999};
        int[] times = {0, 1, 1, 2, 2, 3, 3, 0, 0, 1, 3, 0, 2, 3, 3};
        for (int k = 0; k < days.length; k++) {
            House.days(x, days[k] - x.count(0));
            Check.is("15: day " + days[k], times[k], x.said(0, 0, 0, 0, 5));
        }
    }

    // Custom: "from, to, the numbers of their TOWNS"
    private static void fromAndTo() {
        NoonWords x = House.row(8);
        Check.is("15: from 0 to 7", 7, sum(x, "from*10+to", 0, 7, 0, 0));
        Check.is("15: from 7 to 0", 70, x.said(7, 0, 0, 0, 5));
    }

    // Custom: "Sums are of 64 bits, round on"
    private static void roundOn() {
        long max = Long.MAX_VALUE;
        long min = Long.MIN_VALUE;
        sumIs("n+1", max, -1000);
        sumIs("n-1", min, 1000);
        sumIs("n+n+2", max, 0);
        sumIs("n*2", min, 0);
        sumIs("n*3%1000", max, 805);
        sumIs("0-n", min, -1000);
        sumIs("n*n%1000", 1L << 31, 904);
        sumIs("n*n", 1L << 32, 0);
        sumIs("999999*999999*999999*999999%1000", 0, -359);
        holds("n+1<n", max, true);
        holds("n-1>n", min, true);
        holds("n=0-n", min, true);
    }

    // Custom: "/ as the machine's (towards 0)"
    private static void towards0() {
        sumIs("n/2", 7, 3);
        sumIs("n/2", -7, -3);
        sumIs("7/n", -2, -3);
        sumIs("n/(0-2)", -7, 3);
        sumIs("n/10", 9, 0);
        sumIs("n/10", -9, 0);
        sumIs("n/(0-1)", Long.MIN_VALUE, -1000);
        sumIs("n/(0-1)/n", Long.MIN_VALUE, 1);
    }

    // Custom: "% its rest"
    private static void itsRest() {
        sumIs("n%2", 7, 1);
        sumIs("n%2", -7, -1);
        sumIs("7%n", -2, 1);
        sumIs("n%(0-2)", -7, -1);
        sumIs("n%7", 7, 0);
        sumIs("n%(0-1)", Long.MIN_VALUE, 0);
    }

    // Custom: "or .. ask from the left on, as far as is needed"
    private static void orAsFarAsNeeded() {
        holds("n=0 or 1/n=1", 0, true);
        Check.is("15: what is asked first is divided by 0", 0, banned("1/n=1 or n=0", 0));
        Check.is("15: the second is asked", 0, banned("n=5 or 1/n=1", 0));
        holds("n=5 or n=0 or 1/n=1", 0, true);
        holds("[n=5 or n=0 or 1/n=1] and n=0", 0, true);
        holds("not [n=0 or 1/n=1]", 0, false);
        holds("n=0 or 1/n=1 and 1/n=2 or 1%n=0", 0, true);
        holds("n=1 or n=2 or n=3", 4, false);
    }

    // Custom: "and ask from the left on, as far as is needed"
    private static void andAsFarAsNeeded() {
        holds("n=5 and 1/n=1", 0, false);
        Check.is("15: what is asked first is divided by 0", 0, banned("1/n=1 and n=5", 0));
        Check.is("15: the second is asked", 0, banned("n=0 and 1/n=1", 0));
        holds("n=5 and n=6 and 1/n=1", 0, false);
        holds("n=5 and 1/n=1 or n=0", 0, true);
        holds("n=5 and [1/n=1 or 1/n=2] or n=0", 0, true);
        holds("not [n=5 and 1/n=1]", 0, true);
        holds("n=5 and not 1/n=1", 0, false);
        holds("n>1 and n>2 and n>3", 4, true);
    }

    private static int banned(String test, long n) {
        NoonWords x = House.inn(1);
        Check.text(x, "ban unless " + test + ";", 1, 0);
        return x.said(0, 0, n, 0, 8);
    }

    private static int fee(String text, long n) {
        NoonWords x = House.inn(1);
        if (Check.text(x, text, 1, 0) < 0) {
            Check.is("12: a right text: " + text, 0, x.fault(0));
        }
        return x.said(0, 0, n, 0, 0);
    }

    // Custom: "A LINE says nothing, if it is VOID"
    private static void voidSaysNothing() {
        Check.is("15: the one ahead counts", 1, fee("1:fee 1;2:fee 2;void 2;", 0));
        Check.is("15: both are void", 0, fee("1:fee 1;2:fee 2;void 2;void 1;", 0));
        Check.is("15: none is void", 2, fee("void 2;void 1;1:fee 1;2:fee 2;", 0));
        Check.is("15: by a void one", 1, fee("1:fee 1;2:fee 2;3:void 2;void 3;", 0));
        Check.is("15: whatever its unless", 1, fee("1:fee 1;2:fee 2;void 2 unless 1=1;", 0));
    }

    // Custom: "or if its unless holds"
    private static void unlessHolds() {
        Check.is("15: it holds", 1, fee("fee 1;fee 2 unless n=7;", 7));
        Check.is("15: it doesn't", 2, fee("fee 1;fee 2 unless n=7;", 8));
        Check.is("15: both hold", 0, fee("fee 1 unless n>6;fee 2 unless n=7;", 7));
    }

    // Custom: "or (then) in its SUM something that is asked is divided by 0"
    private static void dividedBy0InItsSum() {
        Check.is("15: /", 1, fee("fee 1;fee 5/n;", 0));
        Check.is("15: %", 1, fee("fee 1;fee 5%n;", 0));
        Check.is("15: 0 by 0", 1, fee("fee 1;fee n/n;", 0));
        Check.is("15: within brackets", 1, fee("fee 1;fee 0*(2+5/(n-n));", 9));
        Check.is("15: not by below 0", 5, fee("fee 1;fee 0-5/n;", -1));
        Check.is("15: a product of 0", 1, fee("fee 1;fee 5/(n*n);", 1L << 32));
    }

    // Custom: "if in its unless .. something that is asked is divided by 0"
    private static void dividedBy0InItsUnless() {
        Check.is("15: /", 1, fee("fee 1;fee 2 unless 5/n=9;", 0));
        Check.is("15: %", 1, fee("fee 1;fee 2 unless 5%n=9;", 0));
        Check.is("15: on the right side", 1, fee("fee 1;fee 2 unless 9=5/n;", 0));
        Check.is("15: within a not", 1, fee("fee 1;fee 2 unless not 5/n=9;", 0));
        Check.is("15: not asked", 2, fee("fee 1;fee 2 unless n=1 and 5/n=9;", 0));
    }

    // Custom: "or (then) in its SUM": of one whose unless holds it is not asked, and it says nothing anyhow
    private static void notAskedIfItsUnlessHolds() {
        Check.is("15: nothing by both", 1, fee("fee 1;fee 5/n unless n=0;", 0));
        Check.is("15: something", 5, fee("fee 1;fee 5/n unless n=0;", 1));
    }

    // Custom: "Of LINES that say something the last one of its sort counts"
    private static void theLastOneCounts() {
        Check.is("15: the last of two", 2, fee("fee 1;fee 2;", 0));
        Check.is("15: the last that says something", 1, fee("fee 1;fee 2/n;fee 3 unless 1=1;", 0));
        Check.is("15: the last of 24", 24, fee("fee 1;".repeat(23) + "fee 24;", 0));
        Check.is("15: the first of 24", 1, fee("fee 1;" + "fee 2/n;".repeat(23), 0));
    }

    // Custom: "of its sort": others don't hide it, RANKS of another WHOM neither
    private static void ofItsSort() {
        NoonWords x = House.inn(1);
        Check.text(x, "rank kin 1;rank near 2;rank far 3;dies 4;fee 5;bound 6;bears 7;loss teller;ban;", 1, 0);
        int[] due = {5, 4, 6, 1, 2, 3, 7, 1, 1};
        for (int what = 0; what < 9; what++) {
            Check.is("15: what " + what, due[what], x.said(0, 0, 0, 0, what));
        }
    }

    // Custom: "ASKED .. in a's TOWN NOW"
    private static void inATownNow() {
        NoonWords x = House.row(2);
        Check.text(x, "fee 7;", 1, 0);
        Check.text(x, "fee 8;", 1, 3);
        Check.is("15: in a's town", 7, x.said(0, 1, 0, 0, 0));
        Check.is("15: not in b's", 0, x.said(1, 0, 0, 0, 0));
        x.go(2);
        Check.is("15: a day ahead", 7, x.said(0, 1, 0, 0, 0));
        x.go(1);
        Check.is("15: that day", 8, x.said(0, 1, 0, 0, 0));
    }

    // 15: "LOSS (1 the teller's, 0 the payer's)"
    private static void lossOfTheLast() {
        NoonWords x = House.inn(1);
        Check.text(x, "loss payer;loss teller;loss payer unless n=1;loss teller unless n<2;", 1, 0);
        Check.is("15: the payer's", 0, x.said(0, 0, 0, 0, 7));
        Check.is("15: the teller's", 1, x.said(0, 0, 1, 0, 7));
        Check.is("15: the last one", 1, x.said(0, 0, 2, 0, 7));
    }

    // Custom: "There is a BAN, if a ban says something."
    private static void banIfOneSays() {
        NoonWords x = House.inn(1);
        Check.text(x, "ban unless n<5;ban unless n>2;1:ban;void 1;ban unless 1/0=1;", 1, 0);
        Check.is("15: one of them says it", 1, x.said(0, 0, 5, 0, 8));
        Check.is("15: another one says it", 1, x.said(0, 0, 2, 0, 8));
        Check.is("15: none says it", 0, x.said(0, 0, 3, 0, 8));
    }
}
