/** Promises 11 to 15, sentence by sentence: what is too small, too large, empty, full, a wrap-around, refused. */
public final class CustomEdgesTest {
    public static void main(String[] args) {
        feedAtMost400();
        feedHighestFirst();
        feedBehindAText();
        textFirstNBytes();
        textSets();
        textDays();
        textsAtMost6();
        textWithAFault();
        faultsLeaveNothing();
        textWithoutLines();
        textAnswersItsFault();
        eachByteAlone();
        numbersOf7Digits();
        asLongAsTheyGo();
        whatCantStand();
        theEnd();
        a25thLine();
        numberOfALine();
        withinFiveNots();
        withinFiveBrackets();
        withinFiveOfEach();
        theFirstAlongTheText();
        theLeastKindOfOneToken();
        faultAtFirst();
        faultOfTheLatest();
        linesInForce();
        linesForTowns();
        linesOfAllTexts();
        linesVoidBehind();
        linesVoidNumbers();
        linesArguments();
        withoutAny();
        cutBelow();
        cutAbove();
        saidArguments();
        Check.end();
    }

    // 11: "NONE, and nothing changes, if there would be more than 400"
    private static void feedAtMost400() {
        NoonWords x = House.inn(1);
        for (int k = 1; k < 20; k++) {
            x.feed(0x20202020, 0x20202020, 0x20202020, 0x20202020, 0x20202020);
        }
        Check.is("11: just 400", 400, x.feed(0x62616e3b, 0x20202020, 0x20202020, 0x20202020, 0x6665653b));
        Check.is("11: 420 would be", -1, x.feed(0x3f3f3f3f, 0x3f3f3f3f, 0x3f3f3f3f, 0x3f3f3f3f, 0x3f3f3f3f));
        Check.is("11: 400 yet", 400, x.count(9));
        Check.is("12: the bytes are as they were", -12, x.text(400, 1, 0));
        Check.is("13: to the last one", 399, x.fault(1));
        Check.is("11: there is room again", 20, x.feed(0, 0, 0, 0, 0));
    }

    // 11: "Twenty bytes .., the highest of each int first"
    private static void feedHighestFirst() {
        int[] places = {0, 3, 4, 7, 8, 11, 12, 15, 16, 19};
        for (int place : places) {
            int[] four = {0x20202020, 0x20202020, 0x20202020, 0x20202020, 0x20202020};
            int shift = 24 - place % 4 * 8;
            four[place / 4] = four[place / 4] & ~(255 << shift) | 0xff << shift;
            NoonWords x = new NoonWords();
            Check.is("11: twenty", 20, x.feed(four[0], four[1], four[2], four[3], four[4]));
            Check.is("12: a byte of 255", -11, x.text(20, 1, 0));
            Check.is("13: its place", place, x.fault(1));
        }
    }

    // 11: "come behind those on the tape", "(which is empty then)"
    private static void feedBehindAText() {
        NoonWords x = new NoonWords();
        x.feed(0x62616e3b, 0, 0, 0, 0);
        Check.is("12: four of them", 1, x.text(4, 1, 0));
        Check.is("11: none is left", 20, x.feed(0x20202020, 0x20202020, 0x20202020, 0x20202020, 0x2062616e));
        Check.is("11: behind those", 40, x.feed(0x3b202020, 0x20202020, 0x20202020, 0x20202020, 0x20202020));
        Check.is("12: a word over two calls", 1, x.text(40, 1, 0));
    }

    // 12: "IllegalArgumentException: n is below 0 or above what the tape has"
    private static void textFirstNBytes() {
        NoonWords x = House.inn(1);
        Check.calm("12", x, () -> {
            Check.argument("12: 1 of none", () -> x.text(1, 1, 0));
            Check.argument("12: -1 of none", () -> x.text(-1, 1, 0));
        });
        Check.is("12: 0 of none", 0, x.text(0, 1, 0));
        Check.type(x, "ban;ban;ban;ban;ban;");
        Check.calm("12", x, () -> {
            Check.argument("12: 21 of 20", () -> x.text(21, 1, 0));
            Check.argument("12: -1 of 20", () -> x.text(-1, 1, 0));
            Check.argument("12: far above", () -> x.text(Integer.MAX_VALUE, 1, 0));
            Check.argument("12: far below", () -> x.text(Integer.MIN_VALUE, 1, 0));
        });
        Check.is("12: all of 20", 5, x.text(20, 1, 0));
        Check.type(x, "ban;ban;ban;ban;ban;");
        Check.is("12: four of 20", 1, x.text(4, 1, 0));
        Check.is("12: the tape is empty then", 0, x.count(9));
        Check.type(x, "ban;ban;ban;ban;ban;");
        Check.is("12: none of 20", 0, x.text(0, 1, 0));
        Check.is("12: the tape is empty then", 0, x.count(9));
    }

    // Custom: "(a set: .., 1 to 255)"; 12: "IllegalArgumentException: .. the set"
    private static void textSets() {
        NoonWords x = House.inn(1);
        Check.calm("12", x, () -> {
            Check.argument("12: an empty set", () -> x.text(0, 0, 0));
            Check.argument("12: below 0", () -> x.text(0, -1, 0));
            Check.argument("12: 256", () -> x.text(0, 256, 0));
            Check.argument("12: 257", () -> x.text(0, 257, 0));
        });
        Check.is("12: the least", 0, x.text(0, 1, 0));
        Check.is("12: the greatest", 0, x.text(0, 255, 0));
        Check.is("12: of towns to come", 0, x.text(0, 128, 0));
    }

    // Custom: "in force from a DAY on"; 12: "IllegalArgumentException: .. or the DAY"
    private static void textDays() {
        NoonWords x = House.inn(1);
        x.go(7);
        Check.calm("12", x, () -> {
            Check.argument("12: -1", () -> x.text(0, 1, -1));
            Check.argument("12: 1000", () -> x.text(0, 1, 1000));
        });
        Check.is("12: the first day, over already", 1, Check.text(x, "fee 7;", 1, 0));
        Check.is("15: it is in force", 7, x.said(0, 0, 0, 0, 0));
        Check.is("12: the last day", 1, Check.text(x, "fee 9;", 1, 999));
        Check.is("15: it isn't yet", 7, x.said(0, 0, 0, 0, 0));
        House.days(x, 991);
        Check.is("15: a day ahead of it", 7, x.said(0, 0, 0, 0, 0));
        x.go(1);
        Check.is("15: on that day", 9, x.said(0, 0, 0, 0, 0));
    }

    // Custom: "TEXTS, at most 6"; 12: "NONE if there are 6 (the tape is empty then, too)"
    private static void textsAtMost6() {
        NoonWords x = House.inn(1);
        for (int k = 0; k < 6; k++) {
            Check.is("12: text " + k, 1, Check.text(x, "fee " + k + ";", 1, 0));
        }
        Check.is("12: a seventh", -1, Check.text(x, "fee 9;", 1, 0));
        Check.is("12: the tape is empty", 0, x.count(9));
        Check.is("12: 6", 6, x.count(4));
        Check.is("12: a seventh without bytes", -1, x.text(0, 1, 0));
        Check.is("14: 6 lines", 6, x.lines(0, 999, 0));
        Check.is("15: the sixth counts", 5, x.said(0, 0, 0, 0, 0));
        NoonWords y = House.inn(1);
        for (int k = 0; k < 6; k++) {
            Check.is("12: 400 bytes", 1, Check.text(y, "fee " + k + "+1".repeat(197) + ";", 1, k));
        }
        for (int k = 0; k < 6; k++) {
            Check.is("15: each of six", 197 + k, y.said(0, 0, 0, 0, 0));
            y.go(1);
        }
    }

    // Custom: "A TEXT with a FAULT counts for nothing."
    private static void textWithAFault() {
        NoonWords x = House.inn(1);
        for (int k = 0; k < 7; k++) {
            Check.is("12: a fault behind two lines", -12, Check.text(x, "1:fee 1;void 1;fee", 1, 0));
        }
        Check.is("12: no texts", 0, x.count(4));
        Check.is("12: the tape is empty", 0, x.count(9));
        Check.is("14: no lines", 0, x.lines(0, 999, 0));
        Check.is("15: nothing is said", 0, x.said(0, 0, 0, 0, 0));
        for (int k = 0; k < 6; k++) {
            Check.is("12: there is room for six", 1, Check.text(x, "1:fee " + k + ";", 1, 0));
        }
        Check.is("14: none is void", 0, x.lines(0, 999, 1));
        Check.is("15: the sixth counts", 5, x.said(0, 0, 0, 0, 0));
    }

    // Custom: "counts for nothing": neither numbers of its LINES nor room for what is told later
    private static void faultsLeaveNothing() {
        NoonWords x = House.inn(1);
        Check.is("12: a fault behind numbers", -12, Check.text(x, "7:fee 1;7:fee 2;fee", 1, 0));
        Check.text(x, "fee 3;fee 4;void 7;", 1, 0);
        Check.is("14: none has a number", 0, x.lines(0, 0, 1));
        Check.is("15: the last one", 4, x.said(0, 0, 0, 0, 0));
        NoonWords y = House.inn(1);
        for (int k = 0; k < 12; k++) {
            Check.is("12: a long one with a fault", -12, Check.text(y, "fee 1" + "+1".repeat(197) + "+", 1, 0));
        }
        Check.is("12: a long one", 1, Check.text(y, "fee 1" + "+1".repeat(197) + ";", 1, 0));
        Check.is("15: a long one", 198, y.said(0, 0, 0, 0, 0));
        NoonWords z = House.inn(1);
        for (int k = 0; k < 12; k++) {
            Check.is("12: 25 lines", -13, Check.text(z, "ban;".repeat(25), 1, 0));
        }
        Check.is("12: a line", 1, Check.text(z, "fee 5;", 1, 0));
        Check.is("14: a line", 1, z.lines(0, 0, 0));
        Check.is("15: a line", 5, z.said(0, 0, 0, 0, 0));
    }

    // Custom: "TEXT: { LINE }" ({ } any number of times)
    private static void textWithoutLines() {
        NoonWords x = House.inn(1);
        Check.is("12: no bytes", 0, x.text(0, 1, 0));
        Check.is("12: blanks alone", 0, Check.text(x, " \n \n", 1, 0));
        Check.is("12: they are texts", 2, x.count(4));
        Check.is("14: without lines", 0, x.lines(0, 999, 0));
        Check.is("13: without a fault", 0, x.fault(0));
    }

    // 12: "-10 less the FAULT"
    private static void textAnswersItsFault() {
        NoonWords x = new NoonWords();
        Check.is("12: fault 1", -11, Check.text(x, "?", 1, 0));
        Check.is("12: fault 2", -12, Check.text(x, ";", 1, 0));
        Check.is("12: fault 3", -13, Check.text(x, "ban;".repeat(25), 1, 0));
        Check.is("12: fault 4", -14, Check.text(x, "0:ban;", 1, 0));
        Check.is("12: fault 5", -15, Check.text(x, "fee ((((((1))))));", 1, 0));
    }

    // Custom: "1 no TOKEN begins so"; "words (small letters), NUMBERS .., the SIGNS .."; "blanks (10, 32)"
    private static void eachByteAlone() {
        for (int c = 0; c < 256; c++) {
            NoonWords x = new NoonWords();
            x.feed(c << 24, 0, 0, 0, 0);
            int got = x.text(1, 1, 0);
            boolean blank = c == 10 || c == 32;
            boolean token = c >= 'a' && c <= 'z' || ";:<>=+-*/%()[]".indexOf(c) >= 0;
            boolean digit = c >= '0' && c <= '9';
            int due = blank ? 0 : c == '0' ? -14 : token || digit ? -12 : -11;
            Check.is("12: byte " + c, due, got);
            Check.is("13: place of byte " + c, blank ? -1 : digit && c != '0' ? 1 : 0, x.fault(1));
        }
        for (int c = 0; c < 256; c++) {
            NoonWords x = new NoonWords();
            x.feed(0x66656520, 0x31000000 | c << 16 | 0x3b00, 0, 0, 0);
            boolean right = c == 10 || c == 32 || c == ';' || c >= '0' && c <= '9';
            boolean token = c >= 'a' && c <= 'z' || ":<>=+-*/%()[]".indexOf(c) >= 0;
            int at = "+-*/%".indexOf(c) >= 0 ? 6 : 5;
            Check.is("12: fee 1, byte " + c, c == ';' ? -12 : right ? 1 : token ? -12 : -11, x.text(7, 1, 0));
            Check.is("13: fee 1, byte " + c, c == ';' ? 6 : right ? -1 : at, x.fault(1));
        }
    }

    // Custom: "NUMBERS (1 to 6 digits)"; "(a NUMBER of 7 digits and more: at its first)"
    private static void numbersOf7Digits() {
        right("fee 999999;", 1);
        right("fee 000000;", 1);
        right("000999:void 000001;", 1);
        Check.fault("fee 1000000;", 1, 4);
        Check.fault("fee 0000000;", 1, 4);
        Check.fault("fee 99999999999999999999;", 1, 4);
        Check.fault("fee 1+1234567;", 1, 6);
        Check.fault("void 0000007;", 1, 5);
        Check.fault("0000007:ban;", 1, 0);
        NoonWords x = House.inn(1);
        Check.text(x, "bound 999999;rank far 000012;", 1, 0);
        Check.is("15: six digits", 999999, x.said(0, 0, 0, 0, 2));
        Check.is("15: with 0s ahead", 12, x.said(0, 0, 0, 0, 5));
        Check.type(x, "fee 1234567;");
        Check.is("12: six of seven digits", -12, x.text(10, 1, 0));
        Check.is("13: the end is missing", 10, x.fault(1));
    }

    // Custom: "TOKENS, as long as they go, between them blanks"
    private static void asLongAsTheyGo() {
        right("fee1;", 1);
        right("1:fee 1;1:fee 1;", 2);
        right(" fee\n1\n; ", 1);
        right("ban unless 1<2and 2<3or 1=1;", 1);
        right("ban unless not[n<1];", 1);
        Check.fault("banunless 1=1;", 2, 0);
        Check.fault("ban unlessnot 1=1;", 2, 4);
        Check.fault("fee 12 34;", 2, 7);
        Check.fault("fee sea sons;", 2, 4);
        Check.fault("fe e 1;", 2, 0);
        Check.fault("feefee 1;", 2, 0);
        Check.fault("fees 1;", 2, 0);
        Check.fault("fee nn;", 2, 4);
        Check.fault("fee ;", 2, 4);
        Check.fault("ban unless n< =1;", 2, 14);
        Check.fault("ban unless n>=1;", 2, 13);
        Check.fault(";".repeat(400), 2, 0);
        NoonWords x = new NoonWords();
        Check.type(x, "ban;ban;fees");
        Check.is("12: the text ends within a word", -12, x.text(11, 1, 0));
        Check.is("13: which is one so far", 11, x.fault(1));
        Check.type(x, "ban;ban;ban;ban;ban;");
        Check.is("12: the text ends within a word", -12, x.text(6, 1, 0));
        Check.is("13: which is none so far", 4, x.fault(1));
    }

    // Custom: "2 it can't stand there"
    private static void whatCantStand() {
        String[] words = {"n", "coin", "way", "seasons", "day", "time", "from", "to", "near", "far", "teller", "payer",
            "or", "and", "not", "kin", ":", "<", ">", "=", "+", "-", "*", "/", "%", "(", ")", "[", "]"};
        for (String word : words) {
            Check.fault(word, 2, 0);
            Check.fault("ban " + word, 2, 4);
            boolean once = "+-*/%".contains(word) || word.equals("or") || word.equals("and");
            Check.fault("ban unless 1=1 " + word + " " + word, 2, once ? 16 + word.length() : 15);
        }
        Check.fault("unless", 2, 0);
        Check.fault(";", 2, 0);
        String[] says = {"fee", "dies", "bound", "rank", "bears", "loss", "ban", "void"};
        for (String word : says) {
            Check.fault("fee " + word + ";", 2, 4);
            Check.fault("ban " + word + ";", 2, 4);
            Check.fault("ban unless n<" + word + ";", 2, 13);
        }
        String[] noNames = {"near", "far", "teller", "payer", "unless", "or", "and", "not", "fee", "rank"};
        for (String word : noNames) {
            Check.fault("fee " + word + ";", 2, 4);
            Check.fault("fee 1+" + word + ";", 2, 6);
            Check.fault("fee (" + word + ");", 2, 5);
            Check.fault("rank far " + word + ";", 2, 9);
        }
        Check.fault("ban unless word 1=1;", 2, 11);
        Check.fault("ban unless 1=word;", 2, 13);
        Check.fault("ban unless 1=1 word 1=1;", 2, 15);
        Check.fault("ban word 1=1;", 2, 4);
        Check.fault("fee 1 word 1;", 2, 6);
        Check.fault("rank word 1;", 2, 5);
        Check.fault("loss word;", 2, 5);
        Check.fault("word 1;", 2, 0);
        String[] bare = {"fee", "dies", "bound", "rank", "bears", "loss", "void", "rank kin", "5:", "ban unless"};
        for (String line : bare) {
            Check.fault(line + ";", 2, line.length());
            Check.fault(line + " unless 1=1;", 2, line.length() + 1);
        }
        Check.fault("rank teller 1;", 2, 5);
        Check.fault("loss near;", 2, 5);
        Check.fault("void teller;", 2, 5);
        Check.fault("5 5:ban;", 2, 2);
        Check.fault("5::ban;", 2, 2);
        Check.fault("ban unless not not;", 2, 18);
        Check.fault("ban unless [];", 2, 12);
        Check.fault("ban unless n;", 2, 12);
        Check.fault("ban unless n<1 n<1;", 2, 15);
        Check.fault("ban unless (n<1);", 2, 13);
        Check.fault("fee (1];", 2, 6);
        Check.fault("ban unless [n<1);", 2, 15);
    }

    // Custom: "(the end: the text's length)"
    private static void theEnd() {
        String whole = "12:rank near (n+1)*2 unless not [n<1 or n=2];";
        int[] ends = {2, 3, 7, 12, 14, 15, 16, 17, 18, 19, 20, 27, 31, 33, 34, 35, 36, 39, 41, 42, 43, 44};
        for (int end : ends) {
            Check.fault(whole.substring(0, end), 2, end);
            Check.fault(whole.substring(0, end) + " \n", 2, end + 2);
        }
        right(whole, 1);
    }

    // Custom: "3 the first TOKEN of a 25th LINE (if it may stand there)"
    private static void a25thLine() {
        String lines = "ban;".repeat(24);
        right(lines, 24);
        right(lines + "  \n ", 24);
        String[] may = {"fee", "dies", "bound", "rank", "bears", "loss", "ban", "void", "1", "999", "0", "1000", "999999"};
        for (String word : may) {
            Check.fault(lines + word, 3, 96);
            Check.fault(lines + " " + word + ";", 3, 97);
        }
        String[] mayNot = {"n", "kin", "unless", "not", "teller", "bans", ";", ":", "(", "[", "-"};
        for (String word : mayNot) {
            Check.fault(lines + word, 2, 96);
        }
        Check.fault(lines + "1234567", 1, 96);
        Check.fault(lines + "A", 1, 96);
        Check.fault("ban;".repeat(23) + "ban ban;ban;", 2, 96);
    }

    // Custom: "4 a NUMBER of a LINE (behind void, too) that is 0 or above 999"
    private static void numberOfALine() {
        right("1:ban;", 1);
        right("999:ban;", 1);
        right("void 1;", 1);
        right("void 999;", 1);
        Check.fault("0:ban;", 4, 0);
        Check.fault("000000:ban;", 4, 0);
        Check.fault("1000:ban;", 4, 0);
        Check.fault("999999:ban;", 4, 0);
        Check.fault("void 0;", 4, 5);
        Check.fault("void 1000;", 4, 5);
        Check.fault("ban;0", 4, 4);
        Check.fault("ban;1000 ban", 4, 4);
        right("fee 0+1000+999999;", 1);
        right("ban unless 0<1000;", 1);
    }

    // Custom: "5 not .., within five others (.. a not till its ONE ends)"
    private static void withinFiveNots() {
        right("ban unless not not not not not 1=1;", 1);
        Check.fault("ban unless not not not not not not 1=1;", 5, 31);
        right("ban unless not not not not not 1=1 and not not not not not 1=1;", 1);
        right("ban unless not not not not not 1=1 or not not not not not 1=1;", 1);
        Check.fault("ban unless 1=1 or not not not not not not 1=1;", 5, 38);
        Check.fault("ban unless not not not not not (1)=1;", 5, 31);
        Check.fault("ban unless not not not not not 1=(1);", 5, 33);
        Check.fault("ban unless not not not not not 1=1+2*(1);", 5, 37);
        right("ban unless not not not not (1)=(1);", 1);
        right("ban unless not not not not not 1=1 and (1)=(1);", 1);
        Check.fault("ban unless not not not not not [1=1];", 5, 31);
        right("ban unless not not not not [1=1 or 1=1] and [not not not not 1=1];", 1);
    }

    // Custom: "5 .. a bracket of either sort, within five others (at the one that opens ..)"
    private static void withinFiveBrackets() {
        right("fee (((((1)))));", 1);
        Check.fault("fee ((((((1))))));", 5, 9);
        Check.fault("fee ((((((", 5, 9);
        right("fee (((((1)))))+(((((1)))));", 1);
        Check.fault("fee (((((1))))+((((1))));", 2, 24);
        Check.fault("fee ((((1+(1+(1))))));", 5, 13);
        right("fee ((((1+(1)+(1)))));", 1);
        right("ban unless [[[[[1=1]]]]];", 1);
        Check.fault("ban unless [[[[[[1=1]]]]]];", 5, 16);
        right("ban unless [[[[[1=1]]]]] and [[[[[1=1]]]]];", 1);
        Check.fault("ban unless [[[[1=1 or [1=1 and [1=1]]]]]];", 5, 31);
        Check.fault("ban unless [[[[[(1)=1]]]]];", 5, 16);
        Check.fault("ban unless [[[[[1=(1)]]]]];", 5, 18);
        right("ban unless [[[[(1)=(1)]]]];", 1);
    }

    // Custom: "5 not, or a bracket of either sort, within five others": of all sorts together
    private static void withinFiveOfEach() {
        right("ban unless not [not [(1)=1]];", 1);
        right("ban unless not [not [(1)=(1)] and (1)=((1))];", 1);
        Check.fault("ban unless not [not [((1))=1]];", 5, 22);
        Check.fault("ban unless [not [not [not 1=1]]];", 5, 22);
        Check.fault("ban unless not [not [not [1=1]]];", 5, 25);
        right("fee (((((1))))) unless [[[[[1=1]]]]];", 1);
        Check.fault("fee (((((1))))) unless not [[[[[1=1]]]]];", 5, 31);
    }

    // Custom: "FAULTS, the first along the text"
    private static void theFirstAlongTheText() {
        Check.fault("ban ban ?", 2, 4);
        Check.fault("? ban ban", 1, 0);
        Check.fault("0:ban ban;", 4, 0);
        Check.fault("ban ban;0:ban;", 2, 4);
        Check.fault("fee (((((((1)", 5, 9);
        Check.fault("fee 1 1 ((((((", 2, 6);
        Check.fault("void 0 ((((((", 4, 5);
        Check.fault("ban;".repeat(25) + "?", 3, 96);
        Check.fault("ban;".repeat(23) + "0:" + "ban;".repeat(3), 4, 92);
        Check.fault("fee 1234567 1234567", 1, 4);
    }

    // Custom: "of one TOKEN the least kind"
    private static void theLeastKindOfOneToken() {
        Check.fault("fee ((((((1234567", 5, 9);
        Check.fault("fee (((((1234567", 1, 9);
        Check.fault("fee (((((]", 2, 9);
        Check.fault("fee (((((not", 2, 9);
        Check.fault("fee (((((1[", 2, 10);
        Check.fault("fee (((((1(", 2, 10);
        Check.fault("ban unless not not not not not n not", 2, 33);
        Check.fault("ban;".repeat(24) + "0", 3, 96);
        Check.fault("ban;".repeat(24) + "1234567:", 1, 96);
        Check.fault("fee 1 0;", 2, 6);
        Check.fault("0000000:ban;", 1, 0);
    }

    // 13: "0: the FAULT (0 without, and at first), 1: its place (NONE without). NONE for others."
    private static void faultAtFirst() {
        NoonWords x = new NoonWords();
        Check.is("13: at first", 0, x.fault(0));
        Check.is("13: no place at first", -1, x.fault(1));
        Check.is("13: what 2", -1, x.fault(2));
        Check.is("13: what -1", -1, x.fault(-1));
        Check.text(x, "??", 1, 0);
        Check.is("13: the fault", 1, x.fault(0));
        Check.is("13: its place is 0", 0, x.fault(1));
        Check.is("13: what 2", -1, x.fault(2));
        Check.is("13: what -1", -1, x.fault(-1));
        Check.is("13: far away", -1, x.fault(Integer.MAX_VALUE));
    }

    // 13: "Of the latest text() that told a number of LINES or a FAULT"
    private static void faultOfTheLatest() {
        NoonWords x = new NoonWords();
        Check.text(x, "fee", 1, 0);
        Check.argument("12: refused", () -> x.text(1, 1, 0));
        Check.is("13: a refused one told nothing", 2, x.fault(0));
        Check.is("13: a refused one told nothing", 3, x.fault(1));
        Check.text(x, "void 0;", 1, 0);
        Check.is("13: a later fault", 4, x.fault(0));
        Check.is("13: a later fault", 5, x.fault(1));
        x.text(0, 1, 0);
        Check.is("13: no lines, no fault", 0, x.fault(0));
        Check.is("13: no lines, no fault", -1, x.fault(1));
        Check.text(x, "ban?", 1, 0);
        for (int k = 1; k < 6; k++) {
            x.text(0, 1, 0);
        }
        Check.is("12: there are 6", -1, Check.text(x, "ban", 1, 0));
        Check.is("13: NONE told nothing", 0, x.fault(0));
        NoonWords y = new NoonWords();
        for (int k = 0; k < 5; k++) {
            y.text(0, 1, 0);
        }
        Check.text(y, "ban?", 1, 0);
        y.text(0, 1, 0);
        Check.is("13: of the sixth", 0, y.fault(0));
    }

    private static void right(String text, int lines) {
        NoonWords x = new NoonWords();
        Check.is("12: " + text, lines, Check.text(x, text, 1, 0));
        Check.is("13: no fault of " + text, 0, x.fault(0));
        Check.is("13: no place of " + text, -1, x.fault(1));
    }

    // 14: "In a TOWN on a DAY .. how many LINES stand": from the very DAY on
    private static void linesInForce() {
        NoonWords x = House.inn(1);
        Check.text(x, "ban;ban;", 1, 10);
        Check.text(x, "ban;", 1, 0);
        Check.text(x, "ban;ban;ban;ban;", 1, 999);
        Check.is("14: on day 0", 1, x.lines(0, 0, 0));
        Check.is("14: the day ahead", 1, x.lines(0, 9, 0));
        Check.is("14: that day", 3, x.lines(0, 10, 0));
        Check.is("14: the day ahead", 3, x.lines(0, 998, 0));
        Check.is("14: the last day", 7, x.lines(0, 999, 0));
    }

    // Custom: "for some TOWNS (a set: 1 for TOWN 0, 2 for 1 ..)"
    private static void linesForTowns() {
        NoonWords x = House.towns(7);
        Check.text(x, "ban;", 1, 0);
        Check.text(x, "ban;ban;", 128, 0);
        Check.text(x, "ban;ban;ban;ban;", 2 | 64, 0);
        Check.text(x, "ban;ban;ban;ban;ban;ban;ban;ban;", 255, 0);
        int[] lines = {9, 12, 8, 8, 8, 8, 12, 10};
        Check.none("14: no such town yet", () -> x.lines(7, 0, 0));
        x.town();
        for (int k = 0; k < 8; k++) {
            Check.is("14: in town " + k, lines[k], x.lines(k, 0, 0));
        }
    }

    // Custom: "the LINES of all TEXTS ..: TEXTS by the DAY from which they are, of like ones as they were told"
    private static void linesOfAllTexts() {
        NoonWords x = House.inn(1);
        String most = "7:fee 1;".repeat(24);
        for (int k = 0; k < 6; k++) {
            Check.is("12: 24 lines", 24, Check.text(x, k == 0 ? "7:fee 1;".repeat(23) + "void 7;" : most, 1, 5 - k));
        }
        Check.is("14: 144", 144, x.lines(0, 5, 0));
        NoonWords full = House.inn(1);
        for (int k = 0; k < 5; k++) {
            Check.text(full, most, 1, 0);
        }
        Check.is("12: a 25th of the sixth", -13, Check.text(full, most + "7:", 1, 0));
        Check.is("12: a 25th that can't stand there", -12, Check.text(full, most + ";", 1, 0));
        Check.is("12: 24 of the sixth", 24, Check.text(full, most, 1, 0));
        Check.is("14: 144 yet", 144, full.lines(0, 0, 0));
        Check.is("14: the first told stands last", 143, x.lines(0, 5, 1));
        Check.is("14: a day ahead", 120, x.lines(0, 4, 0));
        Check.is("14: a day ahead none is void", 0, x.lines(0, 4, 1));
        Check.is("14: one text", 24, x.lines(0, 0, 0));
        NoonWords y = House.inn(1);
        Check.text(y, "1:fee 1;2:fee 2;", 1, 3);
        Check.text(y, "void 1;2:fee 22;", 1, 3);
        Check.text(y, "void 2;1:fee 11;", 1, 2);
        NoonWords z = House.inn(1);
        int[] days = {5, 3, 4, 3, 0, 5};
        for (int k = 0; k < 6; k++) {
            Check.text(z, "fee " + k + " unless day<" + days[k] + ";", 1, days[k]);
        }
        int[] last = {4, 4, 4, 3, 2, 5};
        for (int day = 0; day < 6; day++) {
            Check.is("15: the last one on day " + day, last[day], z.said(0, 0, 0, 0, 0));
            z.go(1);
        }
        // Of day 2 first: void 2, 1; then 1, 2; then void 1, 2.
        Check.is("14: by days, of like ones as they were told", 2, y.lines(0, 3, 1));
    }

    // Custom: "A LINE is VOID, if a LINE behind it (that is VOID or not, whatever its unless) voids its NUMBER"
    private static void linesVoidBehind() {
        isVoid("1:fee 1;void 1;", 1);
        isVoid("void 1;1:fee 1;", 0);
        isVoid("1:void 1;", 0);
        isVoid("1:void 1;1:void 1;", 1);
        isVoid("1:fee 1;1:fee 1;1:ban;void 1;1:fee 1;", 3);
        isVoid("1:fee 1;2:void 1;void 2;", 2);
        isVoid("1:fee 1;2:void 1;3:void 2;void 3;", 3);
        isVoid("1:fee 1;void 1 unless 1=1;", 1);
        isVoid("1:fee 1;void 1 unless 1/0=1;", 1);
    }

    private static void isVoid(String text, int due) {
        NoonWords x = House.inn(1);
        Check.text(x, text, 1, 0);
        Check.is("14: void of " + text, due, x.lines(0, 0, 1));
    }

    // Custom: "one without a NUMBER never is"
    private static void linesVoidNumbers() {
        isVoid("fee 1;ban;void 1;void 2;void 999;", 0);
        isVoid("999:ban;1:ban;998:ban;void 999;", 1);
        isVoid("1:ban;void 2;", 0);
        isVoid("void 5;5:ban;void 5;", 1);
        NoonWords x = House.inn(1);
        Check.text(x, "5:fee 5;5:void 6;6:fee 7;", 1, 0);
        Check.text(x, "fee 3 unless n=1;ban;void 5;", 1, 0);
        Check.is("14: with a number, in another text", 2, x.lines(0, 0, 1));
        Check.is("15: the one that isn't void", 7, x.said(0, 0, 1, 0, 0));
    }

    // 14: "IllegalArgumentException: the DAY, or another what."
    private static void linesArguments() {
        NoonWords x = House.inn(1);
        Check.is("14: none", 0, x.lines(0, 0, 0));
        Check.is("14: none void", 0, x.lines(0, 999, 1));
        Check.argument("14: day -1", () -> x.lines(0, -1, 0));
        Check.argument("14: day 1000", () -> x.lines(0, 1000, 1));
        Check.argument("14: what -1", () -> x.lines(0, 0, -1));
        Check.argument("14: what 2", () -> x.lines(0, 0, 2));
        Check.none("14: below 0", () -> x.lines(-1, 0, 0));
        Check.none("14: the next one", () -> x.lines(1, 0, 0));
        Check.none("14: told first", () -> x.lines(1, 1000, 2));
    }

    // Custom: "without any: FEE 0, DIES 60, BOUND 1,000,000, RANK 0, BEARS 0, LOSS the payer's"
    private static void withoutAny() {
        int[] unsaid = {0, 60, 1000000, 0, 0, 0, 0, 0, 0};
        String[] texts = {"", "1:fee 7;1:dies 7;1:bound 7;1:rank kin 7;1:rank near 7;1:rank far 7;1:bears 7;"
            + "1:loss teller;1:ban;void 1;", "fee 7/0;dies 7%0;bound 7/0;rank kin 7/0;rank near 7/0;rank far 7/0;"
            + "bears 7/0;loss teller unless 1=1;ban unless 1=1;"};
        for (String text : texts) {
            NoonWords x = House.inn(1);
            Check.text(x, text, 1, 0);
            for (int what = 0; what < 9; what++) {
                Check.is("15: " + what + " without any that says something", unsaid[what], x.said(0, 0, 9, 0, what));
            }
        }
    }

    private static final String ALL = "fee n;dies n;bound n;rank kin n;rank near n;rank far n;bears n;";
    private static final long[] LEAST = {0, 1, 0, -1000, -1000, -1000, 0};
    private static final long[] MOST = {100000, 500, 1000000000, 1000, 1000, 1000, 100};

    // Custom: "FEE (0 to 100,000; cut to that; so below), DIES (1 to 500) ..": from below
    private static void cutBelow() {
        NoonWords x = House.inn(1);
        Check.text(x, ALL, 1, 0);
        for (int what = 0; what < 7; what++) {
            Check.is("15: the least, " + what, LEAST[what], x.said(0, 0, LEAST[what], 0, what));
            Check.is("15: one more, " + what, LEAST[what] + 1, x.said(0, 0, LEAST[what] + 1, 0, what));
            Check.is("15: one less is cut, " + what, LEAST[what], x.said(0, 0, LEAST[what] - 1, 0, what));
            Check.is("15: 32 bits less, " + what, LEAST[what], x.said(0, 0, (MOST[what] + LEAST[what]) / 2 - (1L << 32), 0, what));
            Check.is("15: all below, " + what, LEAST[what], x.said(0, 0, Long.MIN_VALUE, 0, what));
        }
    }

    // Custom: "cut to that": from above
    private static void cutAbove() {
        NoonWords x = House.inn(1);
        Check.text(x, ALL, 1, 0);
        for (int what = 0; what < 7; what++) {
            Check.is("15: the most, " + what, MOST[what], x.said(0, 0, MOST[what], 0, what));
            Check.is("15: one less, " + what, MOST[what] - 1, x.said(0, 0, MOST[what] - 1, 0, what));
            Check.is("15: one more is cut, " + what, MOST[what], x.said(0, 0, MOST[what] + 1, 0, what));
            Check.is("15: 32 bits more, " + what, MOST[what], x.said(0, 0, (MOST[what] + LEAST[what]) / 2 + (1L << 32), 0, what));
            Check.is("15: all above, " + what, MOST[what], x.said(0, 0, Long.MAX_VALUE, 0, what));
        }
    }

    // 15: "IllegalArgumentException: the COIN, or another what."
    private static void saidArguments() {
        NoonWords x = House.inn(2);
        Check.is("15: the least", 0, x.said(0, 1, 0, 0, 0));
        Check.is("15: the greatest", 0, x.said(1, 1, 0, 3, 8));
        Check.argument("15: coin -1", () -> x.said(0, 1, 0, -1, 0));
        Check.argument("15: coin 4", () -> x.said(0, 1, 0, 4, 0));
        Check.argument("15: what -1", () -> x.said(0, 1, 0, 0, -1));
        Check.argument("15: what 9", () -> x.said(0, 1, 0, 0, 9));
        Check.none("15: a below 0", () -> x.said(-1, 1, 0, 0, 0));
        Check.none("15: a the next one", () -> x.said(2, 1, 0, 0, 0));
        Check.none("15: b below 0", () -> x.said(0, -1, 0, 0, 0));
        Check.none("15: b the next one", () -> x.said(0, 2, 0, 0, 0));
        Check.none("15: told first", () -> x.said(0, 2, 0, 4, 9));
    }
}
