/** Promises 11 to 15: feed, text, fault, lines, said. */
public final class CustomTest {
    public static void main(String[] args) {
        feed();
        text();
        tokens();
        grammar();
        manyLines();
        longest();
        numbers();
        nests();
        lines();
        saidSorts();
        saidNames();
        saidSums();
        saidTests();
        saidVoids();
        saidOrder();
        Check.end();
    }

    private static void feed() {
        NoonWords x = new NoonWords();
        for (int k = 1; k <= 20; k++) {
            Check.is("11: how many", 20 * k, x.feed(0, -1, 0, 0, 0));
        }
        Check.is("11: more than 400", -1, x.feed(0, 0, 0, 0, 0));
        Check.is("11: 400 yet", 400, x.count(9));
        NoonWords y = new NoonWords();
        y.feed('b' << 24 | 'a' << 16 | 'n' << 8 | ';', 0, 0, 0, 0);
        Check.is("11: the highest first", 1, y.text(4, 1, 0));
        y.feed(0x62616e3b, 0x62616e20, 0x3b62616e, 0x3b0a0a20, 0x62616e3b);
        Check.is("11: one behind the other", 4, y.text(20, 1, 0));
    }

    private static void text() {
        NoonWords x = new NoonWords();
        Check.type(x, "fee 1;");
        Check.argument("12: n below 0", () -> x.text(-1, 1, 0));
        Check.argument("12: n above the tape", () -> x.text(21, 1, 0));
        Check.argument("12: an empty set", () -> x.text(6, 0, 0));
        Check.argument("12: too great a set", () -> x.text(6, 256, 0));
        Check.argument("12: the day", () -> x.text(6, 1, -1));
        Check.argument("12: the day", () -> x.text(6, 1, 1000));
        Check.is("12: nothing changed", 20, x.count(9));
        Check.is("12: a line", 1, x.text(6, 1, 0));
        Check.is("12: the tape is empty", 0, x.count(9));
        Check.is("12: no lines", 0, x.text(0, 255, 999));
        Check.is("12: blanks", 0, Check.text(x, " \n ", 1, 0));
        Check.is("12: a fault", -12, Check.text(x, "fee", 1, 0));
        Check.is("12: the tape is empty then, too", 0, x.count(9));
        Check.is("12: texts", 3, x.count(4));
        Check.is("12: only the first n bytes", 1, typed(x, "ban;???", 4));
        Check.is("12: the rest is gone", 0, x.count(9));
        x.text(0, 1, 0);
        x.text(0, 1, 0);
        Check.is("12: there are 6", -1, Check.text(x, "ban;", 1, 0));
        Check.is("12: the tape is empty then", 0, x.count(9));
        Check.is("12: 6 with a fault, too", -1, Check.text(x, "?", 1, 0));
        Check.is("13: of the latest that told", 0, x.fault(0));
        Check.is("12: 6 yet", 6, x.count(4));
        Check.argument("12: wrong ones throw yet", () -> x.text(0, 0, 0));
        NoonWords y = new NoonWords();
        Check.is("13: at first", 0, y.fault(0));
        Check.is("13: at first", -1, y.fault(1));
        Check.text(y, "ban?", 1, 0);
        Check.is("13: the fault", 1, y.fault(0));
        Check.is("13: its place", 3, y.fault(1));
        Check.is("13: others", -1, y.fault(2));
        Check.is("13: others", -1, y.fault(-1));
        Check.argument("12: throws", () -> y.text(1, 1, 0));
        Check.is("13: a throw tells nothing", 1, y.fault(0));
        Check.text(y, "ban;", 1, 0);
        Check.is("13: without", 0, y.fault(0));
        Check.is("13: without", -1, y.fault(1));
    }

    private static int typed(NoonWords x, String text, int n) {
        Check.type(x, text);
        return x.text(n, 1, 0);
    }

    private static void right(String text, int lines) {
        NoonWords x = new NoonWords();
        Check.is("12: " + text, lines, Check.text(x, text, 1, 0));
        Check.is("13: " + text, 0, x.fault(0));
        Check.is("13: " + text, -1, x.fault(1));
    }

    private static void tokens() {
        right("1:fee 1;2 : fee\n2 ;", 2);
        right("fee5;fee007;fee 999999;", 3);
        right("fee(1);fee n+1;rank far(n);", 3);
        Check.fault("fee 1234567;", 1, 4);
        Check.fault("fee 0000001;", 1, 4);
        Check.fault("1234567:ban;", 1, 0);
        NoonWords x = new NoonWords();
        Check.type(x, "fee 1234567;");
        Check.is("12: the text ends within a number", -12, x.text(10, 1, 0));
        Check.is("13: its end", 10, x.fault(1));
        Check.type(x, "fee 1234567;");
        Check.is("12: the text ends behind a number", -11, x.text(11, 1, 0));
        Check.type(x, "ban;bans");
        Check.is("12: the text ends within a word", -12, x.text(7, 1, 0));
        Check.is("13: its end", 7, x.fault(1));
        Check.fault("Fee 1;", 1, 0);
        Check.fault("fee\t1;", 1, 3);
        Check.fault("fee 1, ;", 1, 5);
        Check.fault("fee " + (char) 228 + ";", 1, 4);
        Check.fault("ban;" + (char) 0, 1, 4);
        Check.fault("ban ban ?", 2, 4);
        Check.fault("bans;", 2, 0);
        Check.fault("feen;", 2, 0);
        Check.fault("ba n;", 2, 0);
        Check.fault("averylongwordthatisnone;", 2, 0);
    }

    private static void grammar() {
        right("fee 1;dies 2;bound 3;rank kin 4;rank near 5;rank far 6;bears 7;loss teller;loss payer;ban;void 8;", 11);
        right("fee n+coin-way*seasons/kin%day+time*(from-to);", 1);
        right("rank kin kin unless kin=kin;", 1);
        right("ban unless n<1 or n>2 and n=3 or not [n<1 and not n>2];", 1);
        right("void 999 unless [[n=1]];", 1);
        right("ban unless (n)<(1) and (n+1)*2>3;", 1);
        Check.fault("fee ", 2, 4);
        Check.fault("ban", 2, 3);
        Check.fault("ban \n", 2, 5);
        Check.fault(";", 2, 0);
        Check.fault("ban;;", 2, 4);
        Check.fault("1 ban;", 2, 2);
        Check.fault("1:2:ban;", 2, 2);
        Check.fault("1:;", 2, 2);
        Check.fault(":ban;", 2, 0);
        Check.fault("fee ;", 2, 4);
        Check.fault("fee -1;", 2, 4);
        Check.fault("fee 1+;", 2, 6);
        Check.fault("fee 1+*2;", 2, 6);
        Check.fault("fee 1 2;", 2, 6);
        Check.fault("fee (1;", 2, 6);
        Check.fault("fee 1);", 2, 5);
        Check.fault("fee ();", 2, 5);
        Check.fault("fee [1];", 2, 4);
        Check.fault("fee near;", 2, 4);
        Check.fault("fee 1<2;", 2, 5);
        Check.fault("rank 1;", 2, 5);
        Check.fault("rank day 1;", 2, 5);
        Check.fault("rank kin;", 2, 8);
        Check.fault("loss kin;", 2, 5);
        Check.fault("loss teller payer;", 2, 12);
        Check.fault("ban 1;", 2, 4);
        Check.fault("void n;", 2, 5);
        Check.fault("void 1+1;", 2, 6);
        Check.fault("ban unless;", 2, 10);
        Check.fault("ban unless n;", 2, 12);
        Check.fault("ban unless n<1<2;", 2, 14);
        Check.fault("ban unless not;", 2, 14);
        Check.fault("ban unless n<1 or;", 2, 17);
        Check.fault("ban unless n<1 or or n<1;", 2, 18);
        Check.fault("ban unless [n<1;", 2, 15);
        Check.fault("ban unless n<1];", 2, 14);
        Check.fault("ban unless (n<1);", 2, 13);
        Check.fault("ban unless [n]<1;", 2, 13);
        Check.fault("ban unless [n<1]<1;", 2, 16);
        Check.fault("ban unless n not <1;", 2, 13);
        Check.fault("ban unless n<1 unless n<1;", 2, 15);
        Check.fault("unless n<1;", 2, 0);
    }

    private static String times(String s, int n) {
        return s.repeat(n);
    }

    private static void manyLines() {
        right(times("ban;", 24), 24);
        Check.fault(times("ban;", 25), 3, 96);
        Check.fault(times("ban;", 24) + " 7:", 3, 97);
        Check.fault(times("ban;", 24) + "0:ban;", 3, 96);
        Check.fault(times("ban;", 24) + ";", 2, 96);
        Check.fault(times("ban;", 24) + "n", 2, 96);
        Check.fault(times("ban;", 24) + "?", 1, 96);
        Check.fault(times("ban;", 23) + "bans", 2, 92);
        right(times("ban;", 24) + " \n", 24);
    }

    private static void longest() {
        Check.fault(times(";", 400), 2, 0);
        Check.fault(times("ban;", 100), 3, 96);
        Check.fault("fee 1" + times("+1", 197) + " ", 2, 400);
        String most = "fee 1" + times("+1", 197) + ";";
        right(most, 1);
        NoonWords x = new NoonWords();
        x.town();
        x.broker(0, 0);
        for (int k = 0; k < 6; k++) {
            Check.is("12: 400 bytes", 1, Check.text(x, k == 5 ? "fee n" + times("+1", 197) + ";" : most, 1, k));
            Check.is("15: 400 bytes", 198, x.said(0, 0, 1, 0, 0));
        }
        x.go(5);
        Check.is("15: the last of six", 200, x.said(0, 0, 3, 0, 0));
        NoonWords y = new NoonWords();
        y.town();
        y.broker(0, 0);
        for (int k = 0; k < 6; k++) {
            Check.is("12: a fault with many lines", -12, Check.text(y, times("7:fee 9;", 24) + ";", 1, 0));
            Check.is("12: 24 lines", 24, Check.text(y, times((k + 1) + ":fee " + k + ";", 24), 1, 0));
        }
        Check.is("14: 144 lines", 144, y.lines(0, 0, 0));
        Check.is("15: the last of 144", 5, y.said(0, 0, 0, 0, 0));
    }

    private static void numbers() {
        right("1:ban;999:void 1;1:void 999;", 3);
        Check.fault("0:ban;", 4, 0);
        Check.fault("1000:ban;", 4, 0);
        Check.fault("1000", 4, 0);
        Check.fault("0 ?", 4, 0);
        Check.fault("void 0;", 4, 5);
        Check.fault("void 1000", 4, 5);
        Check.fault("1:void 999999;", 4, 7);
    }

    private static void nests() {
        right("fee (((((1)))));", 1);
        right("ban unless not not not not not n<1;", 1);
        right("ban unless [[[[[n<1]]]]];", 1);
        right("ban unless not [(n)<1 and not [(n)<1]] and not [not [not n<1]];", 1);
        right("fee (1)+(2)+(3)+(4)+(5)+(6);", 1);
        right("ban unless not n<1 and not n<1 and not n<1 and not n<1 and not n<1 and not n<1;", 1);
        Check.fault("fee ((((((1))))));", 5, 9);
        Check.fault("ban unless not not not not not not n<1;", 5, 31);
        Check.fault("ban unless [[[[[[n<1]]]]]];", 5, 16);
        Check.fault("ban unless not [not [(((1)", 5, 22);
        Check.fault("ban unless not not not not not (n)<1;", 5, 31);
        Check.fault("ban unless not not not not not n<(1);", 5, 33);
        Check.fault("fee (((((]", 2, 9);
        Check.fault("fee (((((?", 1, 9);
    }

    private static void lines() {
        NoonWords x = new NoonWords();
        x.town();
        x.town();
        Check.text(x, "1:ban;2:ban;ban;void 1;", 1, 10);
        Check.text(x, "1:void 2;1:fee 1;", 3, 5);
        Check.is("14: none in force", 0, x.lines(0, 4, 0));
        Check.is("14: one text", 2, x.lines(0, 5, 0));
        Check.is("14: none void", 0, x.lines(0, 9, 1));
        Check.is("14: both texts", 6, x.lines(0, 10, 0));
        Check.is("14: those ahead are void", 3, x.lines(0, 999, 1));
        Check.is("14: the other town", 2, x.lines(1, 10, 0));
        Check.text(x, "void 2 unless 1=1;1:void 1;", 1, 10);
        Check.is("14: of like days as they were told", 8, x.lines(0, 10, 0));
        Check.is("14: an unless does not matter", 4, x.lines(0, 10, 1));
        Check.none("14: no such town", () -> x.lines(2, 1000, 0));
        Check.argument("14: the day", () -> x.lines(0, 1000, 0));
        Check.argument("14: the day", () -> x.lines(0, -1, 0));
        Check.argument("14: another what", () -> x.lines(0, 0, 2));
        Check.argument("14: another what", () -> x.lines(0, 0, -1));
    }

    /** Two towns, three days apart; brokers 0 and 1 in the first, 2 in the other, 3 in a third one without roads. */
    private static NoonWords house(String text) {
        NoonWords x = new NoonWords();
        x.town();
        x.town();
        x.town();
        x.road(0, 1, 3);
        x.broker(0, 1);
        x.broker(0, 2);
        x.broker(1, 1);
        x.broker(2, 5);
        if (Check.text(x, text, 255, 0) < 0) {
            Check.is("a right text: " + text, 0, x.fault(0));
        }
        return x;
    }

    private static void saidSorts() {
        NoonWords none = house("");
        int[] unsaid = {0, 60, 1000000, 0, 0, 0, 0, 0, 0};
        for (int what = 0; what <= 8; what++) {
            Check.is("15: without any, " + what, unsaid[what], none.said(0, 1, 1, 0, what));
        }
        Check.none("15: no such broker", () -> none.said(4, 0, 0, 9, 9));
        Check.none("15: no such broker", () -> none.said(0, -1, 0, 0, 0));
        Check.argument("15: the coin", () -> none.said(0, 0, 0, 4, 0));
        Check.argument("15: the coin", () -> none.said(0, 0, 0, -1, 0));
        Check.argument("15: another what", () -> none.said(0, 0, 0, 0, 9));
        Check.argument("15: another what", () -> none.said(0, 0, 0, 0, -1));
        NoonWords all = house("fee n;dies n;bound n;rank kin n;rank near n+1;rank far n+2;bears n;loss teller;ban;");
        int[] small = {7, 7, 7, 7, 8, 9, 7, 1, 1};
        int[] low = {0, 1, 0, -1000, -1000, -1000, 0, 1, 1};
        int[] high = {100000, 500, 1000000000, 1000, 1000, 1000, 100, 1, 1};
        for (int what = 0; what <= 8; what++) {
            Check.is("15: said, " + what, small[what], all.said(0, 1, 7, 0, what));
            Check.is("15: cut below, " + what, low[what], all.said(0, 1, -5000000000L, 0, what));
            Check.is("15: cut above, " + what, high[what], all.said(0, 1, 5000000000L, 0, what));
        }
        NoonWords last = house("fee 5;loss teller;fee 6;loss payer;fee 7 unless n=1;ban unless n<5;");
        Check.is("15: the last one counts", 7, last.said(0, 1, 2, 0, 0));
        Check.is("15: of those that say something", 6, last.said(0, 1, 1, 0, 0));
        Check.is("15: the last loss", 0, last.said(0, 1, 1, 0, 7));
        Check.is("15: no ban", 0, last.said(0, 1, 4, 0, 8));
        Check.is("15: a ban", 1, last.said(0, 1, 5, 0, 8));
    }

    private static int name(String name, int a, int b, int days) {
        NoonWords x = house("rank far " + name + ";");
        for (int left = days; left > 0; left -= 90) {
            x.go(Math.min(90, left));
        }
        return x.said(a, b, -77, 3, 5);
    }

    private static void saidNames() {
        Check.is("15: n", -77, name("n", 0, 2, 0));
        Check.is("15: coin", 3, name("coin", 0, 2, 0));
        Check.is("15: way", 3, name("way", 0, 2, 0));
        Check.is("15: way, in one town", 0, name("way", 0, 1, 0));
        Check.is("15: way, none", -1, name("way", 0, 3, 0));
        Check.is("15: seasons", 0, name("seasons", 0, 2, 89));
        Check.is("15: seasons", 1, name("seasons", 0, 2, 90));
        Check.is("15: seasons", 5, name("seasons", 0, 2, 460));
        Check.is("15: kin", 1, name("kin", 0, 2, 0));
        Check.is("15: kin, not", 0, name("kin", 0, 1, 0));
        Check.is("15: kin, both one", 1, name("kin", 1, 1, 0));
        Check.is("15: day", 123, name("day", 0, 2, 123));
        Check.is("15: time", 3, name("time", 0, 2, 359));
        Check.is("15: time", 0, name("time", 0, 2, 360));
        Check.is("15: time", 1, name("time", 0, 2, 450));
        Check.is("15: from", 0, name("from", 0, 2, 0));
        Check.is("15: to", 1, name("to", 0, 2, 0));
        Check.is("15: from", 2, name("from", 3, 0, 0));
        NoonWords x = house("rank far seasons;");
        x.go(100);
        int late = x.broker(0, 0);
        x.go(90);
        Check.is("15: seasons of a", 1, x.said(late, 0, 0, 0, 5));
        Check.is("15: seasons of a, not b", 2, x.said(0, late, 0, 0, 5));
    }

    private static int sum(String sum, long n) {
        return house("rank far " + sum + ";").said(0, 1, n, 0, 5);
    }

    private static void saidSums() {
        Check.is("15: by turns", 5, sum("10-3-2", 0));
        Check.is("15: * first", 7, sum("1+2*3", 0));
        Check.is("15: brackets", 9, sum("(1+2)*3", 0));
        Check.is("15: / by turns", 4, sum("100/5/5", 0));
        Check.is("15: % and *", 6, sum("17%5*3", 0));
        Check.is("15: / towards 0", -2, sum("n/3", -8));
        Check.is("15: % its rest", -2, sum("n%3", -8));
        Check.is("15: / by below 0", -2, sum("8/n", -3));
        Check.is("15: % by below 0", 2, sum("8%n", -3));
        Check.is("15: round on", -1000, sum("n+1", Long.MAX_VALUE));
        Check.is("15: round on", 1000, sum("n-1", Long.MIN_VALUE));
        Check.is("15: round on", 0, sum("n*2", Long.MIN_VALUE));
        Check.is("15: the machine's /", -1000, sum("n/(0-1)", Long.MIN_VALUE));
        Check.is("15: the machine's %", 0, sum("n%(0-1)", Long.MIN_VALUE));
        Check.is("15: deep", 21, sum("1+(2+(3+(4+(5+(6)))))", 0));
        Check.is("15: long", 40, sum("1" + times("+1", 39), 0));
        NoonWords x = house("rank far 5;rank far 9/n;rank far 8%(n-1);");
        Check.is("15: by 0 it says nothing", 5, x.said(0, 1, 1, 0, 5) == 9 ? x.said(0, 1, 0, 0, 5) == 0 ? 5 : -5 : -6);
        NoonWords y = house("rank far 5;rank far 9/n;");
        Check.is("15: by 0 the one ahead counts", 5, y.said(0, 1, 0, 0, 5));
        Check.is("15: % by 0", 0, house("fee 4%n;").said(0, 1, 0, 0, 0));
        Check.is("15: ban has no sum", 1, house("ban unless n=5;").said(0, 1, 0, 0, 8));
        Check.is("15: 0*(1/0)", 3, house("fee 3;fee 0*(1/n);").said(0, 1, 0, 0, 0));
    }

    private static boolean test(String test, long n) {
        return house("ban unless " + test + ";").said(0, 1, n, 0, 8) == 0;
    }

    private static void holdsFrom(String test, long n, boolean want) {
        Check.is("15: " + test + " of " + n, want ? 1 : 0, test(test, n) ? 1 : 0);
    }

    private static void saidTests() {
        holdsFrom("n<3", 2, true);
        holdsFrom("n<3", 3, false);
        holdsFrom("n>3", 3, false);
        holdsFrom("n>3", 4, true);
        holdsFrom("n=3", 3, true);
        holdsFrom("not n=3", 3, false);
        holdsFrom("not not n=3", 3, true);
        holdsFrom("n=1 or n=2 and n=3", 1, true);
        holdsFrom("[n=1 or n=2] and n=3", 1, false);
        holdsFrom("n=2 and n=3 or n=1", 1, true);
        holdsFrom("n=1 or n=2 or n=3", 3, true);
        holdsFrom("n<5 and n<4 and n<3", 3, false);
        holdsFrom("not n=1 and n=2", 2, true);
        holdsFrom("not [n=1 and n=2]", 1, true);
        holdsFrom("not n=1 or n=1", 1, true);
        holdsFrom("n+1=2*(n-1)", 3, true);
        Check.is("15: or asks as far as is needed", 0, house("ban unless n=0 or 1/n=1;").said(0, 1, 0, 0, 8));
        Check.is("15: or asks the left first", 0, house("ban unless 1/n=9 or n=0;").said(0, 1, 0, 0, 8));
        Check.is("15: then it says nothing", 0, house("ban unless 1/n=9 and n=5;").said(0, 1, 0, 0, 8));
        Check.is("15: and asks as far as is needed", 1, house("ban unless n=1 and 1/n=1;").said(0, 1, 0, 0, 8));
        Check.is("15: and, in a part that is asked", 0, house("ban unless n=0 and 1/n=1;").said(0, 1, 0, 0, 8));
        Check.is("15: brackets skipped whole", 1,
                house("ban unless n=1 and [n=0 or 1/n=1 or n=2] or n=7;").said(0, 1, 0, 0, 8));
        Check.is("15: an or behind a skipped and", 0,
                house("ban unless n=1 and 1/n=1 or n=0;").said(0, 1, 0, 0, 8));
        Check.is("15: the sum isn't asked if its unless holds", 4,
                house("fee 4;fee 1/n unless n=0;").said(0, 1, 0, 0, 0));
        Check.is("15: not of a division by 0", 0, house("ban unless not 1/n=1;").said(0, 1, 0, 0, 8));
    }

    private static void saidVoids() {
        NoonWords x = house("1:fee 1;2:fee 2;fee 3 unless n=1;2:void 2;void 7;");
        Check.is("15: a void one says nothing", 1, x.said(0, 1, 1, 0, 0));
        Check.is("15: one without a number", 3, x.said(0, 1, 0, 0, 0));
        Check.text(x, "2:fee 22;", 255, 0);
        Check.is("15: one behind it is not void", 22, x.said(0, 1, 1, 0, 0));
        Check.text(x, "3:void 2 unless 1=1;", 255, 0);
        Check.is("15: whatever its unless", 1, x.said(0, 1, 1, 0, 0));
        Check.text(x, "void 3;void 1;", 255, 0);
        Check.is("15: a void one voids yet", 0, x.said(0, 1, 1, 0, 0));
        Check.is("14: all void", 5, x.lines(0, 0, 1));
    }

    private static void saidOrder() {
        NoonWords x = house("");
        Check.text(x, "fee 20;", 1, 20);
        Check.text(x, "fee 10;", 1, 10);
        Check.text(x, "fee 11;", 1, 10);
        Check.text(x, "fee 99;", 2, 0);
        Check.is("15: not in force", 0, x.said(0, 1, 0, 0, 0));
        Check.is("15: asked in a's town", 99, x.said(2, 0, 0, 0, 0));
        x.go(10);
        Check.is("15: of like days the one told last", 11, x.said(0, 1, 0, 0, 0));
        x.go(10);
        Check.is("15: by days", 20, x.said(0, 2, 0, 0, 0));
    }
}
