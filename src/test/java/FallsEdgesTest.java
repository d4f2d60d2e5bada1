/** Promises 36 to 40, sentence by sentence: falls, ruin, wealth and runs at their edges. */
public final class FallsEdgesTest {
    public static void main(String[] args) {
        fallsOnce();
        falls400Entries();
        falls400ByBothSorts();
        fallsNoCreditors();
        fallsNothingThere();
        fallsAsMuchAsTheClaims();
        fallsEmptiesItsDrawer();
        claimsAbove0();
        creditorsNotFallen();
        creditorsFromTheFirstOn();
        splitOfLikeRests();
        splitOfUnlikeRests();
        splitsApart();
        noEntryOf0();
        ranksOfWhom();
        ranksTogether();
        ranksOfTheClaim();
        ranksCut();
        ranksOfAClaimOf1();
        ranksByWhomeverFell();
        aboveAllIsGone();
        borneRoundedDown();
        borneByHowMany();
        borneAtMostTheDrawer();
        borneByKinThatAreCreditors();
        borneByNobody();
        borneOfAFullDrawer();
        bearsAskedOfItself();
        stopOfItsWords();
        stopIfLater();
        fellOnADay();
        wealthOfNets();
        wealthOfFallenOnes();
        wealthArguments();
        ruinAt0();
        ruinNoRounds();
        ruinRoundByRound();
        ruinTogether();
        ruinOfFallenOnes();
        ruinByShares();
        ruinOf1();
        ruinOfTwelve();
        ruinAsItIsNow();
        ruinArguments();
        runDays();
        runByLag();
        runOfAll();
        runLess();
        runNobody();
        runArguments();
        Check.end();
    }

    /** One town; broker 0 owes each other one so many and has so many; kins 0, 1, 2 .. */
    private static NoonWords debtor(int has, int... owes) {
        NoonWords x = House.inn(owes.length + 1);
        for (int k = 0; k < owes.length; k++) {
            if (owes[k] > 0) {
                House.owe(x, 0, k + 1, 0, owes[k]);
            }
        }
        x.put(0, 0, has);
        return x;
    }

    private static void has(String what, NoonWords x, int... drawers) {
        for (int k = 0; k < drawers.length; k++) {
            Check.is("36: drawer " + k + ", " + what, drawers[k], x.drawer(k, 0));
        }
    }

    private static void isEntry(NoonWords x, int k, int... entry) {
        for (int what = 0; what < 7; what++) {
            Check.is("36: entry " + k + ", " + what, entry[what], x.entry(k, what));
        }
    }

    // Falls: "A BROKER FALLS, once."; 36: "IllegalStateException: it has FALLEN"
    private static void fallsOnce() {
        NoonWords x = debtor(5, 9);
        Check.is("36: short", 4, x.falls(0));
        Check.calm("36", x, () -> {
            Check.state("36: it has fallen", () -> x.falls(0));
            Check.none("36: below 0", () -> x.falls(-1));
            Check.none("36: the next one", () -> x.falls(2));
        });
        Check.is("36: another one", 0, x.falls(1));
        Check.is("46: both", 2, x.count(8));
    }

    // 36: "or there would be more than 400 ENTRIES"
    private static void falls400Entries() {
        for (int over = 0; over < 2; over++) {
            NoonWords x = debtor(7, 3, 3, 1);
            House.fill(x, 1, 2, 394 + over);
            if (over == 0) {
                Check.is("36: just 400", 0, x.falls(0));
                Check.is("36: 400", 400, x.count(6));
                Check.is("36: one that brings none", 0, x.falls(1));
            } else {
                Check.calm("36", x, () -> Check.state("36: 401 would be", () -> x.falls(0)));
                Check.is("37: it has not fallen", -1, x.fell(0));
                Check.is("9: it has not fallen", 6, x.put(0, 0, -1));
                x.put(0, 0, -2);
                Check.is("36: with less there are but two", 3, x.falls(0));
                Check.is("36: just 400", 400, x.count(6));
            }
        }
    }

    // 36: the ENTRIES of SORT 4 and of SORT 5 together
    private static void falls400ByBothSorts() {
        for (int over = 0; over < 2; over++) {
            NoonWords x = debtor(4, 4, 4, 0, 0, 0, 0);
            Check.text(x, "bears 100;", 1, 0);
            x.tell(0, 1, 1, 5, 7);
            x.put(0, 1, -5);
            x.put(6, 0, 100);
            // Two of sort 4, two of sort 5.
            House.fill(x, 1, 2, 394 + over);
            if (over == 0) {
                Check.is("36: just 400", 0, x.falls(0));
                Check.is("36: 400", 400, x.count(6));
                for (int k = 396; k < 400; k++) {
                    Check.is("36: sort of " + k, k < 398 ? 4 : 5, x.entry(k, 6));
                }
            } else {
                Check.calm("36", x, () -> Check.state("36: 401 would be", () -> x.falls(0)));
                Check.is("20: its word stays", 60, x.word(0, 5));
            }
            NoonWords y = debtor(0, 1, 0, 0, 0, 0, 0);
            Check.text(y, "bears 100;", 1, 0);
            y.put(6, 0, 1);
            House.fill(y, 1, 2, 398 + over);
            if (over == 0) {
                Check.is("36: just 400 by one of 1", 0, y.falls(0));
            } else {
                Check.calm("36", y, () -> Check.state("36: 401 would be, by one of 1", () -> y.falls(0)));
            }
        }
    }

    // Falls: without CREDITORS nobody has anything
    private static void fallsNoCreditors() {
        NoonWords x = debtor(50);
        Check.is("36: alone", 0, x.falls(0));
        Check.is("36: its drawer is empty", 0, x.drawer(0, 0));
        Check.is("36: no entries", 0, x.count(6));
        NoonWords y = debtor(50, 0, 0);
        House.owe(y, 1, 0, 0, 9);
        Check.text(y, "bears 100;", 1, 0);
        Check.is("36: who owes it is no creditor", 0, y.falls(0));
        has("nobody has anything", y, 0, 0, 0);
        Check.is("36: it owes yet", 9, y.owes(1, 0, 0));
        Check.is("36: no more entries", 1, y.count(6));
    }

    // Falls: an ESTATE of 0
    private static void fallsNothingThere() {
        NoonWords x = debtor(0, 5, 7);
        Check.is("36: all is short", 12, x.falls(0));
        Check.is("36: no entries", 2, x.count(6));
        NoonWords y = debtor(0, 5, 7);
        y.rate(0, 1, 1);
        y.put(0, 1, 99);
        Check.is("36: worth nothing", 12, y.falls(0));
        Check.is("36: its drawer is empty all the same", 0, y.drawer(0, 1));
    }

    // Falls: "if what is left of ESTATE is as much as their CLAIMS, each has its CLAIM; else a SPLIT"
    private static void fallsAsMuchAsTheClaims() {
        NoonWords more = debtor(13, 5, 7);
        Check.is("36: one more", 0, more.falls(0));
        has("one more is gone", more, 0, 5, 7);
        NoonWords just = debtor(12, 5, 7);
        Check.is("36: as much", 0, just.falls(0));
        has("as much", just, 0, 5, 7);
        NoonWords less = debtor(11, 5, 7);
        Check.is("36: one less", 1, less.falls(0));
        // 55/12 is 4 and 7, 77/12 is 6 and 5.
        has("one less", less, 0, 5, 6);
    }

    // Falls: "ESTATE: WORTH of its DRAWER in its TOWN NOW, all COINS together; its DRAWER is empty then."
    private static void fallsEmptiesItsDrawer() {
        NoonWords x = debtor(0, 100);
        for (int coin = 0; coin < 4; coin++) {
            x.put(0, coin, 10 + coin);
            if (coin > 0) {
                x.rate(0, coin, 50 * coin);
            }
        }
        // 10, 5.5, 12 and 19.5.
        Check.is("36: short", 100 - 10 - 5 - 12 - 19, x.falls(0));
        for (int coin = 0; coin < 4; coin++) {
            Check.is("36: empty of " + coin, 0, x.drawer(0, coin));
        }
        Check.is("36: all in coin 0", 46, x.drawer(1, 0));
        Check.is("36: none in coin 3", 0, x.drawer(1, 3));
    }

    // Falls: "have a CLAIM above 0"
    private static void claimsAbove0() {
        NoonWords x = debtor(50, 1, 5);
        House.owe(x, 2, 0, 1, 5);
        House.owe(x, 0, 2, 2, 0);
        Check.is("23: just 0", 0, x.claim(0, 2));
        Check.is("36: nothing is short", 0, x.falls(0));
        has("a claim of 1 and one of 0", x, 0, 1, 0);
        Check.is("36: one entry", 5, x.count(6));
        NoonWords y = debtor(50, 0);
        y.rate(0, 1, 99);
        House.owe(y, 0, 1, 1, 1);
        Check.is("36: what is worth nothing", 0, y.falls(0));
        Check.is("36: no entry", 1, y.count(6));
        Check.is("36: it is owed yet", 1, y.owes(0, 1, 1));
    }

    // Falls: "all others that have not FALLEN"
    private static void creditorsNotFallen() {
        NoonWords x = debtor(10, 10, 10);
        x.falls(1);
        Check.is("36: the other one has all", 0, x.falls(0));
        has("the other one has all", x, 0, 0, 10);
        Check.is("36: owed yet", 10, x.owes(0, 1, 0));
        NoonWords y = House.inn(3);
        House.owe(y, 1, 0, 0, 10);
        House.owe(y, 1, 2, 0, 10);
        y.put(1, 0, 10);
        y.falls(0);
        Check.is("36: the first one has fallen", 0, y.falls(1));
        has("the first one has fallen", y, 0, 0, 10);
    }

    // Falls: "all others": the first and the last BROKER, too
    private static void creditorsFromTheFirstOn() {
        NoonWords x = House.inn(7);
        Check.text(x, "bears 100;", 1, 0);
        House.owe(x, 6, 0, 0, 1);
        House.owe(x, 6, 5, 0, 3);
        x.put(6, 0, 2);
        x.put(6, 3, 1);
        x.put(0, 0, 9);
        // 1 and 3 of 3: 0.75 and 2.25. The first is kin; it bears the 1 that is missing.
        Check.is("36: short", 0, x.falls(6));
        has("the first one bears", x, 9, 0, 0, 0, 0, 3, 0);
        isEntry(x, 2, 0, 0, 6, 0, 0, -1, 4);
        isEntry(x, 3, 0, 0, 6, 5, 0, -2, 4);
        isEntry(x, 4, 0, 0, 6, 5, 0, -1, 5);
        Check.is("36: entries", 5, x.count(6));
        Check.is("36: its drawer is empty", 0, x.drawer(6, 3));
        for (int over = 0; over < 2; over++) {
            NoonWords y = House.inn(2);
            House.owe(y, 1, 0, 0, 1);
            y.put(1, 0, 1);
            House.fill(y, 0, 1, 398 + over);
            if (over == 0) {
                Check.is("36: just 400", 0, y.falls(1));
            } else {
                Check.calm("36", y, () -> Check.state("36: an entry of 1 to the first one", () -> y.falls(1)));
            }
        }
    }

    // Terms: a SPLIT "of like ones the lesser number"
    private static void splitOfLikeRests() {
        NoonWords x = debtor(4, 3, 3, 3);
        Check.is("36: short", 5, x.falls(0));
        has("1.33 each", x, 0, 2, 1, 1);
        NoonWords y = debtor(5, 3, 3, 3);
        y.falls(0);
        has("1.67 each", y, 0, 2, 2, 1);
        NoonWords z = House.inn(12);
        for (int k = 0; k < 11; k++) {
            House.owe(z, 11, k, 0, 1);
        }
        z.put(11, 0, 10);
        Check.is("36: eleven creditors", 1, z.falls(11));
        for (int k = 0; k < 11; k++) {
            Check.is("36: creditor " + k, k < 10 ? 1 : 0, z.drawer(k, 0));
        }
    }

    // Terms: "of what is left over one each, the greatest rests of these divisions first"
    private static void splitOfUnlikeRests() {
        NoonWords x = debtor(10, 1, 2, 4, 8);
        // 10/15, 20/15, 40/15 and 80/15: 0, 1, 2, 5 with rests 10, 5, 10, 5.
        Check.is("36: short", 5, x.falls(0));
        has("two over", x, 0, 1, 1, 3, 5);
        NoonWords y = debtor(3, 1, 5, 1);
        // 3/7, 15/7 and 3/7: 0, 2, 0 with rests 3, 1, 3.
        y.falls(0);
        has("one over", y, 0, 1, 2, 0);
        NoonWords z = debtor(7, 2, 7, 5);
        // 14/14, 49/14 and 35/14: 1, 3, 2 with rests 0, 7, 7.
        z.falls(0);
        has("none for a rest of 0", z, 0, 1, 4, 2);
    }

    // Terms: each SPLIT of its own, whatever was left of one ahead of it
    private static void splitsApart() {
        NoonWords x = House.inn(6);
        Check.text(x, "bears 100;", 1, 0);
        for (int k = 1; k < 5; k++) {
            House.owe(x, 0, k, 0, 3);
        }
        House.owe(x, 5, 3, 0, 1);
        House.owe(x, 5, 4, 0, 1);
        x.put(0, 0, 5);
        x.put(5, 0, 1);
        // 1.25 each; then a half each.
        Check.is("36: of four", 7, x.falls(0));
        has("of four", x, 0, 2, 1, 1, 1);
        Check.is("36: of two", 1, x.falls(5));
        has("of two", x, 0, 2, 1, 2, 1, 0);
        NoonWords z = House.inn(12);
        Check.text(z, "bears 100 unless n=1;", 1, 0);
        for (int k = 1; k < 4; k++) {
            House.owe(z, 0, k, 0, 3);
        }
        House.owe(z, 7, 8, 0, 1);
        House.owe(z, 7, 9, 0, 1);
        z.put(6, 0, 4);
        z.put(7, 0, 1);
        // 4 are borne: 1.33 each; then a half each.
        Check.is("36: of what is borne", 5, z.falls(0));
        has("of what is borne", z, 0, 2, 1, 1, 0, 0, 0, 1);
        Check.is("36: of two others", 1, z.falls(7));
        has("of two others", z, 0, 2, 1, 1, 0, 0, 0, 0, 1, 0);
        NoonWords y = House.inn(12);
        Check.text(y, "bears 100;", 1, 0);
        House.owe(y, 0, 1, 0, 9);
        House.owe(y, 2, 3, 0, 9);
        y.put(6, 0, 50);
        y.put(8, 0, 5);
        Check.is("36: the kin of 0 bears", 0, y.falls(0));
        Check.is("36: the kin of 2 bears", 4, y.falls(2));
        has("each kin its own", y, 0, 9, 0, 5, 0, 0, 41, 0, 0);
        y.put(4, 0, 5);
        House.owe(y, 4, 5, 0, 3);
        Check.is("36: nothing is short", 0, y.falls(4));
        has("nothing is borne", y, 0, 9, 0, 5, 0, 3, 41, 0, 0);
    }

    // Falls: "(SORT 4; none of 0; these by the CREDITORS' numbers)"
    private static void noEntryOf0() {
        NoonWords x = debtor(2, 1, 9, 9, 1);
        // 2/20, 18/20, 18/20 and 2/20.
        Check.is("36: short", 18, x.falls(0));
        Check.is("36: two entries", 6, x.count(6));
        isEntry(x, 4, 0, 0, 0, 2, 0, -1, 4);
        isEntry(x, 5, 0, 0, 0, 3, 0, -1, 4);
        NoonWords y = debtor(19, 1, 9, 9, 1);
        Check.text(y, "rank near n;", 1, 0);
        y.falls(0);
        // 9 and 9 by their rank, and 1 for two of 1; 4 has nothing.
        isEntry(y, 4, 0, 0, 0, 1, 0, -1, 4);
        isEntry(y, 5, 0, 0, 0, 2, 0, -9, 4);
        isEntry(y, 6, 0, 0, 0, 3, 0, -9, 4);
        Check.is("36: by numbers, not by ranks", 7, y.count(6));
    }

    // Falls: "of kin (those of its KIN), else of near (in its TOWN), else of far"
    private static void ranksOfWhom() {
        String[] texts = {"rank kin 1;", "rank near 1;", "rank far 1;"};
        int[][] due = {{10, 10, 0, 0}, {0, 0, 10, 0}, {0, 0, 0, 10}};
        for (int turn = 0; turn < 3; turn++) {
            NoonWords x = House.towns(2);
            x.road(0, 1, 3);
            x.broker(0, 5);
            x.broker(0, 5);
            x.broker(1, 5);
            x.broker(0, 4);
            x.broker(1, 4);
            Check.text(x, texts[turn], 1, 0);
            for (int k = 1; k < 5; k++) {
                House.owe(x, 0, k, 0, 10);
            }
            x.put(0, 0, turn == 0 ? 20 : 10);
            x.falls(0);
            for (int k = 0; k < 4; k++) {
                Check.is("36: " + texts[turn] + " of " + (k + 1), due[turn][k], x.drawer(k + 1, 0));
            }
        }
    }

    // Falls: "From the greatest RANK on all of one RANK together"
    private static void ranksTogether() {
        NoonWords x = debtor(26, 10, 10, 10, 10);
        Check.text(x, "rank near 0-1;rank near 1 unless n=10;", 1, 0);
        Check.is("36: all are of one rank", 14, x.falls(0));
        has("all are of one rank", x, 0, 7, 7, 6, 6);
        NoonWords y = debtor(26, 8, 10, 8, 10);
        Check.text(y, "rank near 1;rank near 0-1 unless n=10;", 1, 0);
        Check.is("36: two are of a greater rank", 10, y.falls(0));
        has("two are of a greater rank", y, 0, 3, 10, 3, 10);
        NoonWords z = debtor(19, 8, 10, 8, 10);
        Check.text(z, "rank near 1;rank near 0-1 unless n=10;", 1, 0);
        z.falls(0);
        has("none for the lesser rank", z, 0, 0, 10, 0, 9);
        NoonWords w = House.inn(12);
        Check.text(w, "rank near n;rank kin n;", 1, 0);
        for (int k = 1; k < 12; k++) {
            House.owe(w, 0, k, 0, k);
        }
        w.put(0, 0, 65);
        Check.is("36: eleven ranks", 1, w.falls(0));
        Check.is("36: the last rank has nothing", 0, w.drawer(1, 0));
        Check.is("36: the one ahead has all", 2, w.drawer(2, 0));
    }

    // Falls: "ASKED of it and the CREDITOR, the CLAIM, COIN 0"
    private static void ranksOfTheClaim() {
        NoonWords x = debtor(5, 3, 4);
        Check.text(x, "rank near n unless coin=1 or seasons=1 or from=1;", 1, 0);
        House.owe(x, 0, 1, 1, 10);
        x.rate(0, 1, 20);
        // Claims 3 and 2, and 4.
        Check.is("36: short", 4, x.falls(0));
        has("by the claim of all coins", x, 0, 5, 0);
    }

    // Custom: RANK "(-1,000 to 1,000)", cut: then they are of one RANK
    private static void ranksCut() {
        NoonWords x = debtor(10, 10, 20);
        Check.text(x, "rank near n*100;", 1, 0);
        x.falls(0);
        has("1,000 and 2,000", x, 0, 3, 7);
        NoonWords y = debtor(10, 9, 20);
        Check.text(y, "rank near n*100;", 1, 0);
        y.falls(0);
        has("900 and 2,000", y, 0, 0, 10);
        NoonWords z = debtor(10, 10, 20);
        Check.text(z, "rank near 0-n*100;", 1, 0);
        z.falls(0);
        has("-1,000 and -2,000", z, 0, 3, 7);
    }

    // Falls: "have a CLAIM above 0. Each has a RANK"
    private static void ranksOfAClaimOf1() {
        NoonWords x = debtor(1, 2, 1);
        Check.text(x, "rank near 3-n;", 1, 0);
        Check.is("36: short", 2, x.falls(0));
        has("the claim of 1 first", x, 0, 0, 1);
        NoonWords y = debtor(1, 2, 1);
        Check.text(y, "rank near 0-n;", 1, 0);
        y.falls(0);
        has("ranks below 0", y, 0, 0, 1);
    }

    // Falls: "Each has a RANK": of each that falls, not of the first alone
    private static void ranksByWhomeverFell() {
        for (int debtor = 0; debtor < 12; debtor++) {
            NoonWords x = House.inn(12);
            Check.text(x, "rank near n;rank kin n;", 1, 0);
            for (int k = 1; k < 12; k++) {
                House.owe(x, debtor, (debtor + k) % 12, 0, k);
            }
            x.put(debtor, 0, 30);
            // 11, 10 and then 9 of 9.
            Check.is("36: short", 36, x.falls(debtor));
            for (int k = 1; k < 12; k++) {
                Check.is("36: of " + debtor + " to " + k + " on", k < 9 ? 0 : k, x.drawer((debtor + k) % 12, 0));
            }
        }
    }

    // Terms: "what comes in above that is gone"
    private static void aboveAllIsGone() {
        NoonWords x = debtor(20, 10, 10);
        x.put(1, 0, 9999990);
        x.put(2, 0, 9999991);
        x.falls(0);
        has("just full, and one is gone", x, 0, 10000000, 10000000);
        isEntry(x, 3, 0, 0, 0, 2, 0, -10, 4);
    }

    // Falls: "BORNE: SHORT times BEARS .. by 100, rounded down"
    private static void borneRoundedDown() {
        int[] bears = {0, 1, 33, 34, 66, 67, 99, 100};
        int[] borne = {0, 0, 0, 1, 1, 2, 2, 3};
        for (int k = 0; k < bears.length; k++) {
            NoonWords x = debtor(0, 3, 0, 0, 0, 0, 0);
            Check.text(x, "bears " + bears[k] + ";", 1, 0);
            x.put(6, 0, 9);
            Check.is("36: by " + bears[k], 3 - borne[k], x.falls(0));
            Check.is("36: it leaves, by " + bears[k], 9 - borne[k], x.drawer(6, 0));
            Check.is("36: it comes, by " + bears[k], borne[k], x.drawer(1, 0));
            Check.is("36: none of 0, by " + bears[k], borne[k] == 0 ? 1 : 2, x.count(6));
        }
        NoonWords y = debtor(0, 199, 0, 0, 0, 0, 0);
        Check.text(y, "bears 1;", 1, 0);
        y.put(6, 0, 9);
        Check.is("36: 1.99", 198, y.falls(0));
    }

    /** Broker 0 of town 0 owes broker 1 so many; so many more of its kin, each with 100. */
    private static NoonWords kin(int owes, int many) {
        NoonWords x = House.towns(1);
        x.broker(0, 3);
        x.broker(0, 2);
        for (int k = 0; k < many; k++) {
            x.broker(0, 3);
            x.put(k + 2, 0, 100);
        }
        House.owe(x, 0, 1, 0, owes);
        Check.text(x, "bears 100;", 1, 0);
        return x;
    }

    // Falls: "Each BROKER of its KIN that has not FALLEN bears BORNE by how many these are, rounded down"
    private static void borneByHowMany() {
        NoonWords one = kin(10, 1);
        Check.is("36: one bears all", 0, one.falls(0));
        Check.is("36: one bears all", 90, one.drawer(2, 0));
        NoonWords three = kin(11, 3);
        Check.is("36: three bear 3 each", 2, three.falls(0));
        has("three bear 3 each", three, 0, 9, 97, 97, 97);
        NoonWords ten = kin(9, 10);
        Check.is("36: ten bear nothing of 9", 9, ten.falls(0));
        Check.is("36: no entry", 1, ten.count(6));
        NoonWords fell = kin(11, 3);
        fell.falls(3);
        Check.is("36: two bear 5 each", 1, fell.falls(0));
        has("two bear 5 each", fell, 0, 10, 95, 0, 95);
    }

    // Falls: "at most what its DRAWER has of COIN 0; it leaves the DRAWER"
    private static void borneAtMostTheDrawer() {
        int[] has = {0, 4, 5, 6};
        int[] bears = {0, 4, 5, 5};
        for (int k = 0; k < has.length; k++) {
            NoonWords x = kin(10, 2);
            x.put(2, 0, has[k] - 100);
            x.put(2, 1, 100);
            Check.is("36: with " + has[k], 5 - bears[k], x.falls(0));
            Check.is("36: with " + has[k], has[k] - bears[k], x.drawer(2, 0));
            Check.is("36: the other one bears its own alone", 95, x.drawer(3, 0));
            Check.is("36: of coin 0 alone", 100, x.drawer(2, 1));
        }
        NoonWords y = kin(10, 2);
        y.put(2, 0, -100);
        y.put(3, 0, -100);
        Check.is("36: none has any", 10, y.falls(0));
        Check.is("36: no entry", 1, y.count(6));
    }

    // Falls: "KIN that are CREDITORS bear too, by DRAWERS with what came into them so far"
    private static void borneByKinThatAreCreditors() {
        NoonWords x = kin(20, 1);
        House.owe(x, 0, 2, 0, 10);
        x.put(2, 0, -100);
        x.put(0, 0, 9);
        // 9 by 20 and 10: 6 and 3. Missing 14 and 7; it has just the 3, which are a split again: 2 and 1.
        Check.is("36: with what came", 18, x.falls(0));
        has("with what came", x, 0, 8, 1);
        isEntry(x, 2, 0, 0, 0, 1, 0, -6, 4);
        isEntry(x, 3, 0, 0, 0, 2, 0, -3, 4);
        isEntry(x, 4, 0, 0, 0, 1, 0, -2, 5);
        isEntry(x, 5, 0, 0, 0, 2, 0, -1, 5);
        Check.is("36: not what comes later", 6, x.count(6));
    }

    // Falls: without KIN nothing is borne
    private static void borneByNobody() {
        NoonWords x = kin(10, 0);
        Check.is("36: no kin", 10, x.falls(0));
        NoonWords y = kin(10, 1);
        y.falls(2);
        Check.is("36: no kin that hasn't fallen", 10, y.falls(0));
        NoonWords z = kin(10, 1);
        z.put(0, 0, 10);
        Check.is("36: nothing is short", 0, z.falls(0));
        Check.is("36: nothing is borne", 100, z.drawer(2, 0));
    }

    // Terms: "what comes in above that is gone", ahead of what is borne
    private static void borneOfAFullDrawer() {
        NoonWords x = House.towns(1);
        x.broker(0, 3);
        x.broker(0, 3);
        Check.text(x, "bears 100;", 1, 0);
        House.owe(x, 0, 1, 0, 1000);
        x.put(0, 0, 600);
        x.put(1, 0, 9999900);
        // 600 come, 500 of them are gone; 400 leave, and come again.
        Check.is("36: all is borne", 0, x.falls(0));
        Check.is("36: full", 10000000, x.drawer(1, 0));
        isEntry(x, 1, 0, 0, 0, 1, 0, -600, 4);
        isEntry(x, 2, 0, 0, 0, 1, 0, -400, 5);
        NoonWords y = House.towns(1);
        y.broker(0, 3);
        y.broker(0, 3);
        Check.text(y, "bears 100;", 1, 0);
        y.rate(0, 1, 1000);
        for (int k = 0; k < 20; k++) {
            y.goods(1, 0, 1, 0, 100, 1000);
        }
        y.put(0, 0, 5);
        y.put(1, 0, 10000000);
        // 5 come into a full drawer; all of it leaves, and comes again.
        Check.is("36: all there is is borne", 20000000 - 5 - 10000000, y.falls(0));
        Check.is("36: full", 10000000, y.drawer(1, 0));
        isEntry(y, 21, 0, 0, 0, 1, 0, -10000000, 5);
    }

    // Falls: "BEARS (ASKED of whom fell and of itself, SHORT, COIN 0)"
    private static void bearsAskedOfItself() {
        NoonWords x = kin(10, 1);
        Check.text(x, "bears 0;bears n*10 unless coin=1 or kin=0 or way=3 or day=1;", 1, 0);
        x.put(0, 0, 5);
        Check.is("36: by what is short", 3, x.falls(0));
        Check.is("36: 50 of 100 of 5", 98, x.drawer(2, 0));
    }

    // Falls: "STOP of each WORD that it told and that isn't PAID is the first DAY on which this is HEARD in the payer's TOWN"
    private static void stopOfItsWords() {
        NoonWords x = House.row(3);
        for (int k = 0; k < 3; k++) {
            x.put(k, 0, 100);
        }
        x.tell(0, 1, 0, 5, 7);
        x.tell(0, 1, 0, 5, 7);
        x.twin(1, 2);
        x.tell(1, 0, 0, 5, 7);
        x.go(3);
        x.pay(0, 7);
        x.go(2);
        x.falls(0);
        Check.is("20: a paid one", 63, x.word(0, 5));
        Check.is("20: one that isn't", 8, x.word(1, 5));
        Check.is("20: its twin", 11, x.word(2, 5));
        Check.is("20: one that another told it", 63, x.word(3, 5));
        x.go(2);
        Check.is("17: a day ahead", 1, x.pay(1, 7));
        Check.is("21: it is owed by whom fell", 5, x.owes(0, 1, 0));
        x.go(1);
        Check.is("20: its twin, by the payment", 10, x.word(2, 5));
    }

    // Falls: "if STOP is later"
    private static void stopIfLater() {
        NoonWords x = House.row(2);
        Check.text(x, "dies 2;", 1, 0);
        x.tell(0, 1, 0, 5, 7);
        x.go(1);
        x.tell(0, 1, 0, 5, 7);
        x.go(1);
        x.tell(0, 1, 0, 5, 7);
        x.go(1);
        x.falls(0);
        // Heard on 6; they stop on 5, 6 and 7.
        Check.is("20: not later", 5, x.word(0, 5));
        Check.is("20: just then", 6, x.word(1, 5));
        Check.is("20: later", 6, x.word(2, 5));
        NoonWords y = House.row(2);
        y.tell(0, 1, 0, 5, 7);
        y.falls(0);
        Check.is("20: of the first word", 3, y.word(0, 5));
        NoonWords z = House.inn(2);
        for (int k = 0; k < 100; k++) {
            z.tell(0, 1, 0, 5, 7);
        }
        z.falls(0);
        Check.is("20: of 100 words the first", 0, z.word(0, 5));
        Check.is("20: of 100 words the last", 0, z.word(99, 5));
    }

    // 37: "The DAY on which a BROKER FELL; NONE."
    private static void fellOnADay() {
        NoonWords x = House.inn(3);
        Check.is("37: none", -1, x.fell(0));
        x.falls(0);
        Check.is("37: day 0", 0, x.fell(0));
        House.days(x, 999);
        x.falls(2);
        Check.is("37: day 0 yet", 0, x.fell(0));
        Check.is("37: the last day", 999, x.fell(2));
        Check.is("37: none yet", -1, x.fell(1));
        Check.none("37: below 0", () -> x.fell(-1));
        Check.none("37: the next one", () -> x.fell(3));
        NoonWords y = House.inn(12);
        for (int k = 0; k < 12; k++) {
            y.falls(k);
            Check.is("46: so many have fallen", k + 1, y.count(8));
        }
    }

    // Falls: WEALTH "for each other BROKER WORTH of what that one's NETS to it are (below 0 too), all COINS together"
    private static void wealthOfNets() {
        NoonWords x = House.inn(3);
        Check.is("39: nothing", 0, x.wealth(0));
        House.owe(x, 1, 0, 0, 5);
        Check.is("39: what is owed to it", 5, x.wealth(0));
        Check.is("39: what it owes", -5, x.wealth(1));
        House.owe(x, 0, 1, 2, 9);
        Check.is("39: all coins", -4, x.wealth(0));
        House.owe(x, 2, 0, 0, 4);
        Check.is("39: each other one", 0, x.wealth(0));
        x.rate(0, 3, 50);
        House.owe(x, 0, 1, 3, 1);
        House.owe(x, 0, 2, 3, 1);
        Check.is("39: each rounded down", -2, x.wealth(0));
    }

    // 39: "if none were DOWN but those that have FALLEN"
    private static void wealthOfFallenOnes() {
        NoonWords x = debtor(3, 9, 0);
        House.owe(x, 1, 2, 0, 20);
        Check.is("39: one that isn't down, whatever it has", 9 - 20, x.wealth(1));
        Check.is("39: one that is below 0 isn't down", 20, x.wealth(2));
        x.falls(0);
        Check.is("39: of one that fell nothing more", 3 - 20, x.wealth(1));
        Check.is("39: the others yet", 20, x.wealth(2));
        House.owe(x, 2, 1, 0, 1);
        x.falls(1);
        Check.is("39: of one that fell nothing", 3, x.wealth(2));
        NoonWords y = House.inn(2);
        House.owe(y, 1, 0, 0, 9);
        y.falls(0);
        Check.is("39: what it owes to one that fell", -9, y.wealth(1));
        Check.is("39: one that fell", 9, y.wealth(0));
    }

    private static void wealthArguments() {
        NoonWords x = House.inn(2);
        Check.none("39: below 0", () -> x.wealth(-1));
        Check.none("39: the next one", () -> x.wealth(2));
    }

    // Falls: "all whose WEALTH is below 0 come DOWN"
    private static void ruinAt0() {
        NoonWords x = debtor(0, 9);
        x.broker(0, 5);
        House.owe(x, 1, 2, 0, 9);
        x.put(1, 0, 9);
        Check.is("38: just 0", 1, x.ruin(0, 0));
        Check.is("38: no round", 0, x.ruin(0, 1));
        x.put(1, 0, -1);
        Check.is("38: just below 0", 3, x.ruin(0, 0));
        Check.is("38: a round", 1, x.ruin(0, 1));
    }

    // 38: "how many rounds in which somebody came DOWN"
    private static void ruinNoRounds() {
        NoonWords x = House.inn(1);
        Check.is("38: alone", 1, x.ruin(0, 0));
        Check.is("38: alone no round", 0, x.ruin(0, 1));
        NoonWords y = debtor(0, 5);
        Check.is("38: it is below 0 itself", 1, y.ruin(0, 0));
        Check.is("38: it is no round", 0, y.ruin(0, 1));
        Check.is("38: another one takes it down", 3, y.ruin(1, 0));
        Check.is("38: in a round", 1, y.ruin(1, 1));
        Check.is("38: nothing changed", -5, y.wealth(0));
        Check.is("38: nobody fell", 0, y.count(8));
    }

    // Falls: "In each round .., as long as there are such."
    private static void ruinRoundByRound() {
        NoonWords x = House.inn(12);
        for (int k = 0; k < 11; k++) {
            House.owe(x, k, k + 1, 0, 100 - k);
        }
        // Each has one more to get than to pay, so each comes down behind the one ahead.
        Check.is("38: all but the last one, which owes nothing", 0x7ff, x.ruin(0, 0));
        Check.is("38: ten rounds", 10, x.ruin(0, 1));
        // 0 has nothing for what it owes, so that it comes down anyhow in the first round.
        Check.is("38: from the middle", 0x7ff, x.ruin(4, 0));
        Check.is("38: from the middle", 6, x.ruin(4, 1));
        NoonWords y = House.inn(12);
        for (int k = 0; k < 11; k++) {
            House.owe(y, 11 - k, 10 - k, 0, 100 - k);
        }
        House.owe(y, 0, 11, 0, 1);
        Check.is("38: the other way", 0xfff, y.ruin(11, 0));
        Check.is("38: eleven rounds", 11, y.ruin(11, 1));
    }

    // Falls: "come DOWN together"
    private static void ruinTogether() {
        NoonWords x = House.inn(4);
        House.owe(x, 0, 1, 0, 10);
        House.owe(x, 0, 2, 0, 10);
        House.owe(x, 1, 3, 0, 5);
        House.owe(x, 2, 3, 0, 5);
        House.owe(x, 3, 1, 0, 4);
        Check.is("38: two at once", 7, x.ruin(0, 0));
        Check.is("38: one round", 1, x.ruin(0, 1));
    }

    // Falls: "it, and all that have FALLEN, are DOWN"
    private static void ruinOfFallenOnes() {
        NoonWords x = debtor(0, 9, 0);
        House.owe(x, 1, 2, 0, 5);
        x.falls(0);
        Check.is("38: who has fallen, too", 7, x.ruin(2, 0));
        Check.is("38: one round", 1, x.ruin(2, 1));
        Check.is("38: of one that has fallen", 3, x.ruin(0, 0));
        Check.is("38: one round", 1, x.ruin(0, 1));
        x.falls(1);
        x.falls(2);
        Check.is("38: all have fallen", 7, x.ruin(1, 0));
        Check.is("38: no round", 0, x.ruin(1, 1));
    }

    // Falls: "what the other one has of its ESTATE as told above (.. by DRAWERS as they are; without KIN)"
    private static void ruinByShares() {
        NoonWords x = debtor(10, 10, 10);
        x.broker(0, 0);
        x.put(3, 0, 1000);
        Check.text(x, "bears 100;", 1, 0);
        House.owe(x, 1, 3, 0, 5);
        House.owe(x, 2, 3, 0, 6);
        // 5 each: just 0, and one below.
        Check.is("38: a split", 5, x.ruin(0, 0));
        Check.is("38: one round", 1, x.ruin(0, 1));
        x.put(0, 0, 1);
        // 6 and 5 of 11: the odd one to the lesser number.
        Check.is("38: a split of 11", 5, x.ruin(0, 0));
        x.put(0, 0, 1);
        Check.is("38: a split of 12", 1, x.ruin(0, 0));
        NoonWords y = debtor(10, 10, 10);
        y.broker(0, 5);
        House.owe(y, 1, 3, 0, 9);
        House.owe(y, 2, 3, 0, 10);
        House.owe(y, 3, 2, 0, 4);
        // 5 each: 1 and 2 are both below 0 in the first round.
        Check.is("38: both", 7, y.ruin(0, 0));
        y.put(1, 0, 4);
        // 2 alone comes down; then all 10 of 0's estate are 1's.
        Check.is("38: who is down is no creditor any more", 5, y.ruin(0, 0));
        Check.is("38: one round", 1, y.ruin(0, 1));
    }

    // Falls: "but if that one is DOWN and this is above 0"
    private static void ruinOf1() {
        NoonWords x = debtor(0, 1);
        x.broker(0, 5);
        House.owe(x, 1, 2, 0, 1);
        Check.is("39: just 0, if it isn't down", 0, x.wealth(1));
        Check.is("38: of 1 nothing", 3, x.ruin(0, 0));
        x.put(0, 0, 1);
        Check.is("38: of 1 all", 1, x.ruin(0, 0));
        NoonWords y = debtor(5, 0, 5);
        House.owe(y, 1, 0, 0, 1);
        Check.is("38: it owes who is down, all the same", 3, y.ruin(0, 0));
        // In town 1 broker 0's nets to 1 are 3 less 3: not above 0, though in town 0 it has a claim of 3.
        NoonWords z = House.towns(2);
        z.broker(0, 0);
        z.broker(1, 1);
        z.broker(1, 2);
        z.rate(1, 1, 300);
        House.owe(z, 0, 1, 0, 3);
        House.owe(z, 1, 0, 1, 1);
        z.rate(0, 1, 1);
        z.put(0, 0, 9);
        House.owe(z, 1, 2, 0, 1);
        Check.is("23: a claim in town 0", 2, z.claim(0, 1));
        Check.is("38: not above 0 it counts as it is", 3, z.ruin(0, 0));
    }

    // Falls: each that is DOWN has CREDITORS and RANKS of its own
    private static void ruinOfTwelve() {
        NoonWords x = House.inn(12);
        Check.text(x, "rank near n;rank kin n;", 1, 0);
        House.owe(x, 0, 11, 0, 100);
        House.owe(x, 0, 10, 0, 50);
        House.owe(x, 1, 9, 0, 5);
        House.owe(x, 11, 8, 0, 80);
        House.owe(x, 10, 8, 0, 20);
        x.put(0, 0, 100);
        // 1 owes what it hasn't, and comes down with 10, which has none of the 100; 11 has all of them.
        Check.is("38: by ranks of their own", 1 | 2 | 1 << 10, x.ruin(0, 0));
        Check.is("38: one round", 1, x.ruin(0, 1));
        for (int down = 0; down < 11; down++) {
            NoonWords y = House.inn(12);
            int next = down + 1;
            int saved = (down + 2) % 12;
            int other = (down + 3) % 12;
            House.owe(y, next, saved, 0, 5);
            House.owe(y, next, down, 0, 5);
            House.owe(y, saved, other, 0, 5);
            y.put(next, 0, 9);
            // The next one owes 10 and has 9: all of it is its other creditor's.
            Check.is("38: both, and it saves the third", 3 << down, y.ruin(down, 0));
            Check.is("38: one round", 1, y.ruin(down, 1));
            y.put(next, 0, -5);
            Check.is("38: too little to save it", 3 << down | 1 << saved, y.ruin(down, 0));
            Check.is("38: two rounds", 2, y.ruin(down, 1));
        }
    }

    // Falls: claims and ranks as they are when it is asked
    private static void ruinAsItIsNow() {
        NoonWords x = debtor(10, 10, 10);
        x.broker(0, 5);
        House.owe(x, 1, 3, 0, 5);
        House.owe(x, 2, 3, 0, 5);
        Check.is("38: each has its share", 1, x.ruin(0, 0));
        House.owe(x, 0, 2, 0, 10);
        Check.is("38: a claim more", 3, x.ruin(0, 0));
        Check.text(x, "rank near 1 unless n=20;", 1, 0);
        Check.is("38: a rank", 5, x.ruin(0, 0));
        x.go(1);
        x.rate(0, 1, 500);
        x.put(0, 1, 1);
        Check.is("38: a rate", 1, x.ruin(0, 0));
        Check.is("36: short", 15, x.falls(0));
        has("as it was", x, 0, 10, 5, 0);
        NoonWords y = debtor(6, 5, 5);
        Check.is("38: ahead of a debt", 1, y.ruin(0, 0));
        House.owe(y, 0, 1, 0, 15);
        Check.is("36: with that debt", 19, y.falls(0));
        has("with that debt", y, 0, 5, 1);
        Check.is("38: behind a fall", 1, x.ruin(0, 0));
        Check.is("39: behind a fall", 5, x.wealth(1));
    }

    // 38: "IllegalArgumentException: another what."
    private static void ruinArguments() {
        NoonWords x = House.inn(2);
        Check.argument("38: what -1", () -> x.ruin(0, -1));
        Check.argument("38: what 2", () -> x.ruin(0, 2));
        Check.none("38: below 0", () -> x.ruin(-1, 0));
        Check.none("38: the next one", () -> x.ruin(2, 0));
        Check.none("38: told first", () -> x.ruin(2, 2));
    }

    /** Towns in a row, three days each; broker 0 owes each other one 10 and has so many. */
    private static NoonWords away(int has, int many) {
        NoonWords x = House.row(many);
        for (int k = 1; k < many; k++) {
            House.owe(x, 0, k, 0, 10);
        }
        x.put(0, 0, has);
        return x;
    }

    // Falls: "of at most so many DAYS (0 to 100)"
    private static void runDays() {
        NoonWords x = away(100, 5);
        int[] days = {0, 2, 3, 5, 6, 8, 9, 11, 12, 100};
        int[] sets = {0, 0, 2, 2, 6, 6, 14, 14, 30, 30};
        for (int k = 0; k < days.length; k++) {
            Check.is("40: within " + days[k], sets[k], x.run(0, days[k], 0));
            Check.is("40: all of them can", -1, x.run(0, days[k], 1));
        }
        x.town();
        x.broker(5, 0);
        House.owe(x, 0, 5, 0, 10);
        Check.is("40: none without a lag", 30, x.run(0, 100, 0));
        NoonWords y = House.towns(8);
        for (int k = 0; k < 7; k++) {
            y.road(k, k + 1, 9);
        }
        y.broker(0, 0);
        y.broker(7, 0);
        House.owe(y, 0, 1, 0, 1);
        Check.is("40: a lag of 63 is above 62", 0, y.run(0, 62, 0));
        Check.is("40: a lag of 63", 2, y.run(0, 63, 0));
        Check.is("40: who can't", 1, y.run(0, 63, 1));
    }

    // Falls: "come by LAG, of like ones by number"
    private static void runByLag() {
        NoonWords x = House.row(3);
        x.broker(0, 0);
        x.broker(1, 0);
        for (int k = 1; k < 5; k++) {
            House.owe(x, 0, k, 0, 10);
        }
        // In town 0: 3; in town 1: 1 and 4; in town 2: 2.
        int[] has = {9, 10, 19, 20, 29, 30, 39, 40};
        int[] first = {3, 1, 1, 4, 4, 2, 2, -1};
        for (int k = 0; k < has.length; k++) {
            x.put(0, 0, has[k] - x.drawer(0, 0));
            Check.is("40: with " + has[k], first[k], x.run(0, 6, 1));
        }
        x.put(0, 0, -30);
        Check.is("40: none of those that come can't", -1, x.run(0, 2, 1));
        Check.is("40: within 3", 1, x.run(0, 3, 1));
    }

    // Falls: "its CREDITORS": the first and the last BROKER, too
    private static void runOfAll() {
        NoonWords x = House.inn(12);
        for (int k = 0; k < 12; k++) {
            if (k != 5) {
                House.owe(x, 5, k, 0, 1);
            }
        }
        NoonWords y = House.inn(2);
        House.owe(y, 1, 0, 0, 1);
        Check.is("40: the first one alone", 1, y.run(1, 0, 0));
        Check.is("40: the first one alone can't", 0, y.run(1, 0, 1));
        y.put(1, 0, 1);
        Check.is("40: the first one alone can", -1, y.run(1, 0, 1));
        Check.is("40: all others", 0xfff & ~32, x.run(5, 0, 0));
        Check.is("40: the first one", 0, x.run(5, 0, 1));
        x.put(5, 0, 1);
        Check.is("40: the second one", 1, x.run(5, 0, 1));
        x.put(5, 0, 9);
        Check.is("40: the last one", 11, x.run(5, 0, 1));
        x.put(5, 0, 1);
        Check.is("40: as much as all", -1, x.run(5, 0, 1));
    }

    // Falls: "the first for whom less is left than its CLAIM can't have all"
    private static void runLess() {
        NoonWords x = debtor(9, 10, 1);
        Check.is("40: the first, though the second could", 1, x.run(0, 0, 1));
        x.put(0, 0, 1);
        Check.is("40: as much for the first", 2, x.run(0, 0, 1));
        x.put(0, 0, 1);
        Check.is("40: as much for both", -1, x.run(0, 0, 1));
        x.put(0, 0, -11);
        Check.is("40: nothing is there", 1, x.run(0, 0, 1));
        x.put(0, 1, 11);
        Check.is("40: all coins", -1, x.run(0, 0, 1));
        x.rate(0, 1, 99);
        Check.is("40: by rates", 2, x.run(0, 0, 1));
    }

    // 40: "(NONE)"; CREDITORS "that have not FALLEN and have a CLAIM above 0"
    private static void runNobody() {
        NoonWords x = debtor(0, 10, 0, 5);
        House.owe(x, 3, 0, 1, 5);
        Check.is("40: a claim of 0", 2, x.run(0, 100, 0));
        x.falls(1);
        Check.is("40: nobody comes", 0, x.run(0, 100, 0));
        Check.is("40: nobody can't", -1, x.run(0, 100, 1));
        NoonWords y = debtor(10, 10);
        y.put(0, 0, -5);
        y.falls(0);
        Check.is("40: on one that has fallen", 2, y.run(0, 0, 0));
        Check.is("40: on one that has fallen", 1, y.run(0, 0, 1));
    }

    // 40: "IllegalArgumentException: DAYS, or another what."
    private static void runArguments() {
        NoonWords x = debtor(9, 10);
        Check.argument("40: -1", () -> x.run(0, -1, 0));
        Check.argument("40: 101", () -> x.run(0, 101, 0));
        Check.argument("40: far above", () -> x.run(0, Integer.MAX_VALUE, 1));
        Check.argument("40: what -1", () -> x.run(0, 0, -1));
        Check.argument("40: what 2", () -> x.run(0, 0, 2));
        Check.none("40: below 0", () -> x.run(-1, 0, 0));
        Check.none("40: the next one", () -> x.run(2, 0, 0));
        Check.none("40: told first", () -> x.run(2, 101, 2));
    }
}
