import java.util.Random;
import java.util.function.LongSupplier;

/** Random runs of calls, each answered by the class and by the model. */
public final class ModelTest {
    private final Random random;
    private final long seed;
    private NoonWords x;
    private Model m;
    private int calls;
    private int kind;
    private final StringBuilder log = new StringBuilder();
    private static int wrong = 0;
    private static long compared = 0;
    private static final java.util.Map<String, int[]> TALLY = new java.util.TreeMap<>();

    private ModelTest(long seed) {
        this.seed = seed;
        this.random = new Random(seed);
    }

    private static String answer(LongSupplier call) {
        try {
            return Long.toString(call.getAsLong());
        } catch (RuntimeException e) {
            return "throws." + e.getClass().getSimpleName();
        }
    }

    private long both(String what, LongSupplier mine, LongSupplier models) {
        calls++;
        compared++;
        String got = answer(mine);
        String want = answer(models);
        log.append(what).append(" = ").append(got).append('\n');
        int[] tally = TALLY.computeIfAbsent(what.substring(0, what.indexOf('(')), k -> new int[2]);
        tally[want.startsWith("throws.") ? 1 : 0]++;
        if (!got.equals(want)) {
            wrong++;
            System.out.println("seed " + seed + ": " + what + " answered " + got + ", the model " + want);
            if (wrong == 1 && System.getProperty("log") != null) {
                System.out.println(log);
            }
        }
        return want.startsWith("throws.") ? Long.MIN_VALUE : Long.parseLong(want);
    }

    private int pick(int least, int most) {
        return least + random.nextInt(most - least + 1);
    }

    private boolean chance(int percent) {
        return random.nextInt(100) < percent;
    }

    // Mostly one that is, now and then one that isn't.
    private int one(int many) {
        if (chance(2) || many == 0) {
            return chance(50) ? -1 : many + random.nextInt(2);
        }
        return random.nextInt(many);
    }

    private int town() {
        return one(m.towns);
    }

    private int broker() {
        return one(m.brokers.size());
    }

    private int coin() {
        return chance(2) ? (chance(50) ? -1 : 4) : chance(50) ? 0 : pick(0, 3);
    }

    private int within(int least, int most) {
        if (chance(2)) {
            return chance(50) ? least - 1 : most + 1;
        }
        if (chance(5)) {
            return chance(50) ? least : most;
        }
        return pick(least, most);
    }

    private String sum(int deep) {
        String s = item(deep);
        while (chance(25)) {
            s += (chance(50) ? "+" : " - ") + item(deep);
        }
        return s;
    }

    private String item(int deep) {
        String s = atom(deep);
        while (chance(20)) {
            s += "*/%".charAt(random.nextInt(3)) + (chance(20) ? "0" : atom(deep));
        }
        return s;
    }

    private String atom(int deep) {
        if (chance(15) && deep < 6) {
            return "(" + sum(deep + 1) + ")";
        }
        if (chance(50)) {
            return " " + Model.NAMES.get(random.nextInt(9)) + " ";
        }
        return chance(85) ? "" + pick(0, 12) : "" + pick(0, 2000000);
    }

    private String test(int deep) {
        String s = part(deep);
        while (chance(20)) {
            s += " or " + part(deep);
        }
        return s;
    }

    private String part(int deep) {
        String s = single(deep);
        while (chance(20)) {
            s += " and " + single(deep);
        }
        return s;
    }

    private String single(int deep) {
        if (chance(15) && deep < 6) {
            return "not " + single(deep + 1);
        }
        if (chance(15) && deep < 6) {
            return "[" + test(deep + 1) + "]";
        }
        return sum(deep) + "<>=".charAt(random.nextInt(3)) + sum(deep);
    }

    private String line() {
        String s = chance(40) ? number() + (chance(50) ? ":" : " :\n") : "";
        int what = random.nextInt(8);
        if (what == 6 && chance(70)) {
            what = 0;
        }
        if (kind == 2 && chance(80)) {
            what = chance(60) ? 3 : 4;
        }
        String says = Model.SAYS.get(what);
        s += says + " ";
        if (says.equals("void")) {
            s += number();
        } else if (says.equals("loss")) {
            s += chance(50) ? "teller" : "payer";
        } else if (says.equals("rank")) {
            s += new String[] {"kin", "near", "far"}[random.nextInt(3)] + " " + pick(0, 3);
            s += chance(30) ? "-n%3" : chance(10) ? "+coin" : "";
        } else if (says.equals("bound")) {
            s += pick(1, 9) + "00000";
        } else if (says.equals("bears") && chance(70)) {
            s += pick(0, 110) + (chance(10) ? "-coin*50" : "");
        } else if (!says.equals("ban")) {
            s += sum(0);
        }
        if (says.equals("ban") || chance(30)) {
            s += " unless " + test(0);
        }
        return s + ";" + (chance(20) ? " " : "");
    }

    private String number() {
        return chance(3) ? (chance(50) ? "0" : "1000") : "" + pick(1, 5);
    }

    private String wholeText() {
        StringBuilder s = new StringBuilder();
        int most = chance(5) ? 30 : 6;
        boolean small = chance(10);
        for (int k = random.nextInt(most + 1); k > 0; k--) {
            String next = small ? (chance(50) ? "ban unless 1=1;" : "fee n;") : line();
            if (s.length() + next.length() <= 400) {
                s.append(next);
            }
        }
        if (chance(30) && s.length() > 0) {
            spoil(s);
        }
        return s.toString();
    }

    private void spoil(StringBuilder s) {
        int at = random.nextInt(s.length());
        int how = random.nextInt(4);
        if (how == 0) {
            s.deleteCharAt(at);
        } else if (how == 1) {
            s.setLength(at);
        } else {
            String signs = "abnot(([[))]];:<>=+-*/%0123456789 \n" + (char) 200 + "A_";
            char c = signs.charAt(random.nextInt(signs.length()));
            if (how == 2 || s.length() == 400) {
                s.setCharAt(at, c);
            } else {
                s.insert(at, c);
            }
        }
    }

    private void tellText() {
        String s = wholeText();
        for (int at = 0; at < s.length(); at += 20) {
            int[] f = new int[5];
            for (int k = 0; k < 20; k++) {
                int c = at + k < s.length() ? s.charAt(at + k) : ' ';
                f[k / 4] = f[k / 4] << 8 | c;
            }
            both("feed()", () -> x.feed(f[0], f[1], f[2], f[3], f[4]), () -> m.feed(f[0], f[1], f[2], f[3], f[4]));
        }
        log.append("// ").append(s).append('\n');
        int n = chance(3) ? s.length() + pick(-2, 25) : s.length();
        int set = chance(60) ? 255 : within(1, 255);
        int day = chance(50) ? 0 : within(0, chance(80) ? Math.min(999, m.now + 20) : 999);
        both("text(" + n + ", " + set + ", " + day + ")", () -> x.text(n, set, day), () -> m.text(n, set, day));
        both("fault(0)", () -> x.fault(0), () -> m.fault(0));
        both("fault(1)", () -> x.fault(1), () -> m.fault(1));
    }

    private void land() {
        int towns = chance(30) ? 1 : pick(2, 8);
        for (int k = 0; k < towns; k++) {
            both("town()", () -> x.town(), () -> m.town());
        }
        for (int k = chance(80) ? towns * 2 : towns / 2; k > 0; k--) {
            road();
        }
        for (int k = chance(30) ? 12 : kind == 7 ? 3 : pick(2, 8); k > 0; k--) {
            come();
        }
    }

    private void road() {
        int a = town();
        int b = town();
        int days = within(1, 9);
        both("road(" + a + ", " + b + ", " + days + ")", () -> x.road(a, b, days), () -> m.road(a, b, days));
    }

    private void come() {
        int t = town();
        int kin = within(0, chance(70) ? 2 : 5);
        both("broker(" + t + ", " + kin + ")", () -> x.broker(t, kin), () -> m.broker(t, kin));
    }

    private void days() {
        int n = within(1, chance(80) ? 5 : 100);
        both("go(" + n + ")", () -> x.go(n), () -> m.go(n));
    }

    private void rates() {
        int t = town();
        int c = chance(3) ? 0 : chance(3) ? 4 : pick(1, 3);
        int of = within(1, 1000);
        both("rate(" + t + ", " + c + ", " + of + ")", () -> x.rate(t, c, of), () -> m.rate(t, c, of));
    }

    private void put() {
        int b = broker();
        int c = coin();
        int n = chance(10) ? pick(-500, 500) : chance(5) ? pick(9000000, 10000001) : pick(0, 2000);
        both("put(" + b + ", " + c + ", " + n + ")", () -> x.put(b, c, n), () -> m.put(b, c, n));
    }

    private void tell() {
        int a = broker();
        int b = broker();
        int c = coin();
        int n = chance(80) ? pick(1, 300) : within(1, 100000);
        int s = chance(95) ? pick(0, 2) : within(0, 32767);
        both("tell(" + a + ", " + b + ", " + c + ", " + n + ", " + s + ")",
                () -> x.tell(a, b, c, n, s), () -> m.tell(a, b, c, n, s));
    }

    private int anyWord() {
        int n = m.words.size();
        return n > 0 && chance(60) ? Math.max(0, n - 1 - random.nextInt(5)) : one(n);
    }

    private void pay() {
        int w = anyWord();
        for (int k = 0; k < m.words.size() && chance(95); k++) {
            Model.Word word = m.words.get(k);
            if (word.paid < 0 && word.ready <= m.now && word.stop > m.now && chance(40)) {
                w = k;
                break;
            }
        }
        pay(w);
    }

    private void pay(int w) {
        boolean there = w >= 0 && w < m.words.size();
        int s = there && chance(75) ? m.words.get(w).secret : pick(-1, 3);
        if (there && chance(70)) {
            Model.Word word = m.words.get(w);
            int c = word.coin;
            int n = word.many;
            both("put(" + word.payer + ", " + c + ", " + n + ")",
                    () -> x.put(word.payer, c, n), () -> m.put(word.payer, c, n));
        }
        both("pay(" + w + ", " + s + ")", () -> x.pay(w, s), () -> m.pay(w, s));
    }

    private void back() {
        int w = anyWord();
        both("back(" + w + ")", () -> x.back(w), () -> m.back(w));
    }

    private void twin() {
        int w = anyWord();
        int b = broker();
        both("twin(" + w + ", " + b + ")", () -> x.twin(w, b), () -> m.twin(w, b));
    }

    private void goods() {
        int a = broker();
        int b = broker();
        int c = coin();
        int kind = within(0, 3);
        int n = chance(70) ? 1 : within(1, 100);
        int price = chance(70) ? pick(1, 6) * 10 : within(0, 1000);
        both("goods(" + a + ", " + b + ", " + c + ", " + kind + ", " + n + ", " + price + ")",
                () -> x.goods(a, b, c, kind, n, price), () -> m.goods(a, b, c, kind, n, price));
    }

    private void market() {
        int t = town();
        int kind = within(0, 3);
        int price = within(0, chance(80) ? 100 : 10000);
        both("market(" + t + ", " + kind + ", " + price + ")",
                () -> x.market(t, kind, price), () -> m.market(t, kind, price));
    }

    // Mostly one who owes, and mostly with enough in its drawer.
    private void settle() {
        int a = broker();
        int b = broker();
        int c = coin();
        int brokers = m.brokers.size();
        for (int k = 0; k < 40 && brokers > 0 && m.netOf(a, b, c) <= 0; k++) {
            a = random.nextInt(brokers);
            b = random.nextInt(brokers);
        }
        settle(a, b, c, chance(80) ? pick(1, 30) : pick(-1, 1000));
    }

    private void settle(int a, int b, int c, int n) {
        if (chance(60)) {
            both("put(" + a + ", " + c + ", " + n + ")", () -> x.put(a, c, n), () -> m.put(a, c, n));
        }
        both("settle(" + a + ", " + b + ", " + c + ", " + n + ")",
                () -> x.settle(a, b, c, n), () -> m.settle(a, b, c, n));
    }

    private void ring() {
        int c = coin();
        int most = within(3, 5);
        if (chance(30)) {
            both("cross(" + c + ", " + most + ")", () -> x.cross(c, most), () -> m.cross(c, most));
            return;
        }
        int what = within(-2, 4);
        both("ring(" + c + ", " + most + ", " + what + ")", () -> x.ring(c, most, what), () -> m.ring(c, most, what));
    }

    private int set() {
        int all = (1 << m.brokers.size()) - 1;
        int set = chance(3) ? random.nextInt() : chance(40) ? all : random.nextInt(all + 1);
        while (chance(95) && Integer.bitCount(set) > 9) {
            set &= set - 1;
        }
        return set;
    }

    private void fewest() {
        int c = coin();
        int set = set();
        both("fewest(" + c + ", " + set + ")", () -> x.fewest(c, set), () -> m.fewest(c, set));
        for (int j = 0; j < 3; j++) {
            int k = pick(-1, 8);
            int what = within(0, 2);
            both("step(" + c + ", " + set + ", " + k + ", " + what + ")",
                    () -> x.step(c, set, k, what), () -> m.step(c, set, k, what));
        }
    }

    private void expect() {
        int b = broker();
        int c = coin();
        int day = chance(80) ? Math.min(999, m.now + pick(0, 30)) : within(0, 999);
        int low = chance(90) ? pick(-60, 60) : within(-1000000, 1000000);
        int high = chance(80) ? Math.min(1000000, low + pick(0, 50)) : within(-1000000, 1000000);
        both("expect(" + b + ", " + c + ", " + day + ", " + low + ", " + high + ")",
                () -> x.expect(b, c, day, low, high), () -> m.expect(b, c, day, low, high));
    }

    private void dry() {
        int b = broker();
        int c = coin();
        boolean surely = chance(50);
        both("dry(" + b + ", " + c + ", " + surely + ")", () -> x.dry(b, c, surely), () -> m.dry(b, c, surely));
    }

    private void plan() {
        int c = coin();
        for (int k = 0; k < m.brokers.size() && chance(70); k++) {
            int b = k;
            int n = pick(0, chance(50) ? 20 : 100);
            both("put(" + b + ", " + c + ", " + n + ")", () -> x.put(b, c, n), () -> m.put(b, c, n));
        }
        int many = within(1, chance(80) ? 3 : 6);
        long debts = chance(20) ? random.nextLong() : 0;
        int n = m.brokers.size();
        for (int k = 0; k < Math.min(many, 6) && n > 0; k++) {
            long debt = 0;
            for (int j = 0; j < 60; j++) {
                int a = random.nextInt(n);
                int b = random.nextInt(n);
                debt = a | b << 4;
                boolean again = false;
                for (int i = 0; i < k; i++) {
                    again |= (debts >> 8 * i & 255) == debt;
                }
                if (m.netOf(a, b, c) > 0 && !again || chance(1)) {
                    break;
                }
            }
            debts = debts & ~(255L << 8 * k) | debt << 8 * k;
        }
        long these = debts;
        int weeks = within(1, 4);
        int what = within(-1, Math.max(0, many - 1));
        both("plan(" + c + ", " + these + ", " + many + ", " + weeks + ", " + what + ")",
                () -> x.plan(c, these, many, weeks, what), () -> m.plan(c, these, many, weeks, what));
    }

    private void fall() {
        int b = broker();
        int what = within(0, 1);
        int how = random.nextInt(100);
        if (how < 12) {
            both("falls(" + b + ")", () -> x.falls(b), () -> m.falls(b));
        } else if (how < 40) {
            both("ruin(" + b + ", " + what + ")", () -> x.ruin(b, what), () -> m.ruin(b, what));
        } else if (how < 60) {
            both("wealth(" + b + ")", () -> x.wealth(b), () -> m.wealth(b));
        } else if (how < 65) {
            both("fell(" + b + ")", () -> x.fell(b), () -> m.fell(b));
        } else {
            int days = chance(70) ? pick(0, 15) : within(0, 100);
            both("run(" + b + ", " + days + ", " + what + ")", () -> x.run(b, days, what), () -> m.run(b, days, what));
        }
    }

    private void ask() {
        int a = broker();
        int b = broker();
        int c = coin();
        int d = chance(80) ? Math.min(999, m.now + pick(0, 20)) : within(0, 999);
        switch (random.nextInt(8)) {
            case 0:
                both("owes(" + a + ", " + b + ", " + c + ")", () -> x.owes(a, b, c), () -> m.owes(a, b, c));
                break;
            case 1:
                int asks = chance(90) ? a : broker();
                both("heard(" + asks + ", " + a + ", " + b + ", " + c + ", " + d + ")",
                        () -> x.heard(asks, a, b, c, d), () -> m.heard(asks, a, b, c, d));
                break;
            case 2:
                both("claim(" + a + ", " + b + ")", () -> x.claim(a, b), () -> m.claim(a, b));
                break;
            case 3:
                both("hidden(" + a + ", " + b + ")", () -> x.hidden(a, b), () -> m.hidden(a, b));
                break;
            case 4:
                int t = town();
                both("rateAt(" + t + ", " + c + ", " + d + ")", () -> x.rateAt(t, c, d), () -> m.rateAt(t, c, d));
                break;
            case 5:
                int from = town();
                int to = town();
                both("lag(" + from + ", " + to + ")", () -> x.lag(from, to), () -> m.lag(from, to));
                break;
            case 6:
                int e = one(m.entries.size());
                int what = within(0, 6);
                both("entry(" + e + ", " + what + ")", () -> x.entry(e, what), () -> m.entry(e, what));
                break;
            default:
                int w = anyWord();
                int of = within(0, 9);
                both("word(" + w + ", " + of + ")", () -> x.word(w, of), () -> m.word(w, of));
        }
    }

    private void said() {
        int a = broker();
        int b = broker();
        int c = coin();
        int what = within(0, 8);
        long n = chance(80) ? pick(-3, 300) : random.nextLong();
        both("said(" + a + ", " + b + ", " + n + ", " + c + ", " + what + ")",
                () -> x.said(a, b, n, c, what), () -> m.said(a, b, n, c, what));
        int t = town();
        int d = within(0, Math.min(999, m.now + 20));
        int which = within(0, 1);
        both("lines(" + t + ", " + d + ", " + which + ")", () -> x.lines(t, d, which), () -> m.lines(t, d, which));
    }

    private void trays() {
        int t = within(0, 3);
        int u = chance(50) ? t : within(0, 3);
        if (t >= 0 && t < 4 && m.trays[t] == null && chance(70)) {
            int s = chance(50) ? 1 : pick(0, 3);
            int size = pick(0, 60);
            both("tray(" + t + ", " + s + ", " + size + ")",
                    () -> { x.tray(t, s, size); return 0; }, () -> { m.tray(t, s, size); return 0; });
        }
        int p = pick(-1, 10);
        int q = pick(-1, 10);
        int n = chance(5) ? random.nextInt() : pick(-1, 12);
        switch (random.nextInt(6)) {
            case 0:
                int sort = within(0, 3);
                int many = chance(50) ? pick(0, 60) : within(0, 60);
                both("tray(" + t + ", " + sort + ", " + many + ")",
                        () -> { x.tray(t, sort, many); return 0; }, () -> { m.tray(t, sort, many); return 0; });
                break;
            case 1:
                long v = chance(50) ? random.nextLong() : pick(-200, 200);
                both("write(" + t + ", " + p + ", " + v + ")", () -> x.write(t, p, v), () -> m.write(t, p, v));
                break;
            case 2:
                both("read(" + t + ", " + p + ")", () -> x.read(t, p), () -> m.read(t, p));
                break;
            case 3:
                both("pour(" + t + ", " + p + ", " + u + ", " + q + ", " + n + ")",
                        () -> { x.pour(t, p, u, q, n); return 0; }, () -> { m.pour(t, p, u, q, n); return 0; });
                break;
            default:
                int b = broker();
                if (chance(50)) {
                    copyBook(b, t);
                }
                both("book(" + b + ", " + t + ")", () -> x.book(b, t), () -> m.book(b, t));
        }
    }

    private void copyBook(int b, int t) {
        if (b < 0 || b >= m.brokers.size() || t < 0 || t > 3 || m.trays[t] == null) {
            return;
        }
        for (int k = 0; k < m.trays[t].length && k < 12 && k < 4 + 4 * m.brokers.size(); k++) {
            int p = k;
            long v = k < 4 ? m.brokers.get(b).drawer[k] : m.netOf(b, k / 4 - 1, k % 4);
            both("write(" + t + ", " + p + ", " + v + ")", () -> x.write(t, p, v), () -> m.write(t, p, v));
        }
    }

    private void counts() {
        int what = within(0, 9);
        both("count(" + what + ")", () -> x.count(what), () -> m.count(what));
        int b = broker();
        int c = coin();
        both("drawer(" + b + ", " + c + ")", () -> x.drawer(b, c), () -> m.drawer(b, c));
        int f = pick(-1, 2);
        both("fault(" + f + ")", () -> x.fault(f), () -> m.fault(f));
    }

    // How often each kind of call comes, by the run's kind.
    private static final int[][] WEIGHTS = {
        {2, 3, 2, 1, 6, 8, 10, 5, 6, 8, 2, 5, 4, 4, 3, 4, 4, 6, 12, 6, 4, 4},
        {1, 3, 1, 0, 2, 0, 0, 0, 0, 30, 3, 6, 10, 10, 4, 3, 8, 6, 6, 1, 2, 2},
        {1, 3, 1, 3, 8, 4, 4, 2, 2, 35, 0, 4, 2, 1, 1, 1, 1, 20, 6, 3, 1, 2},
        {2, 3, 2, 8, 0, 4, 0, 0, 0, 0, 0, 0, 0, 0, 0, 0, 0, 0, 0, 40, 0, 1},
        {1, 5, 1, 1, 6, 25, 30, 15, 15, 0, 0, 3, 1, 0, 3, 8, 0, 2, 15, 2, 1, 2},
        {3, 10, 20, 1, 5, 3, 3, 1, 1, 8, 3, 3, 1, 0, 1, 1, 1, 8, 15, 3, 1, 1},
        {0, 0, 0, 0, 3, 0, 3, 0, 0, 95, 1, 3, 3, 1, 0, 0, 1, 3, 2, 0, 0, 2},
        {1, 3, 1, 0, 0, 0, 0, 0, 0, 20, 0, 5, 0, 0, 10, 10, 30, 0, 0, 0, 0, 0},
        {1, 3, 0, 0, 3, 1, 1, 0, 0, 5, 0, 2, 0, 0, 0, 0, 0, 0, 0, 0, 40, 1},
        {0, 1, 0, 0, 2, 6, 10, 2, 3, 60, 1, 10, 6, 1, 0, 0, 1, 9, 2, 0, 0, 2},
        {1, 2, 1, 1, 2, 3, 10, 4, 4, 3, 1, 4, 4, 4, 2, 6, 6, 6, 12, 6, 4, 4},
    };

    private void act(int[] weights) {
        int all = 0;
        for (int w : weights) {
            all += w;
        }
        int at = random.nextInt(all);
        int what = 0;
        while (at >= weights[what]) {
            at -= weights[what];
            what++;
        }
        switch (what) {
            case 0: road(); break;
            case 1: days(); break;
            case 2: rates(); break;
            case 3: tellText(); break;
            case 4: put(); break;
            case 5: tell(); break;
            case 6: pay(); break;
            case 7: back(); break;
            case 8: twin(); break;
            case 9: goods(); break;
            case 10: market(); break;
            case 11: settle(); break;
            case 12: ring(); break;
            case 13: fewest(); break;
            case 14: expect(); break;
            case 15: dry(); break;
            case 16: plan(); break;
            case 17: fall(); break;
            case 18: ask(); break;
            case 19: said(); break;
            case 20: trays(); break;
            default: counts();
        }
    }

    // As much of all as there may be.
    private void fill() {
        while (m.towns < 8) {
            both("town()", () -> x.town(), () -> m.town());
        }
        for (int k = 0; k < 8; k++) {
            int t = k;
            both("road(" + t + ")", () -> x.road(t, (t + 1) % 8, 9), () -> m.road(t, (t + 1) % 8, 9));
        }
        while (m.brokers.size() < 12) {
            come();
        }
        while (m.rates.size() < 150) {
            rates();
            if (chance(5)) {
                days();
            }
        }
        for (int k = 0; k < 8; k++) {
            tellText();
        }
        for (int k = 0; k < 600 && m.words.size() < 100; k++) {
            tell();
        }
        while (m.expected.size() < 80) {
            expect();
        }
        while (m.entries.size() < 390) {
            goods();
        }
        for (int k = 0; k < 20; k++) {
            put();
        }
    }

    private void wholeState() {
        for (int k = 0; k < 10; k++) {
            int what = k;
            both("count(" + k + ")", () -> x.count(what), () -> m.count(what));
        }
        for (int k = 0; k < m.words.size(); k++) {
            for (int j = 0; j < 10; j++) {
                int w = k;
                int what = j;
                both("word(" + w + ", " + what + ")", () -> x.word(w, what), () -> m.word(w, what));
            }
        }
        for (int k = 0; k < m.entries.size(); k++) {
            for (int j = 0; j < 7; j++) {
                int e = k;
                int what = j;
                both("entry(" + e + ", " + what + ")", () -> x.entry(e, what), () -> m.entry(e, what));
            }
        }
        for (int k = 0; k < m.brokers.size(); k++) {
            for (int c = 0; c < 4; c++) {
                int b = k;
                int coin = c;
                both("drawer(" + b + ", " + coin + ")", () -> x.drawer(b, coin), () -> m.drawer(b, coin));
                for (int j = 0; j < m.brokers.size(); j++) {
                    int o = j;
                    both("owes(" + b + ", " + o + ", " + coin + ")", () -> x.owes(b, o, coin), () -> m.owes(b, o, coin));
                }
            }
        }
    }

    private void play() {
        x = new NoonWords();
        m = new Model();
        kind = (int) (seed % WEIGHTS.length);
        land();
        if (kind == 10) {
            fill();
        }
        int most = calls + (kind == 6 || kind == 9 ? 700 : pick(40, 250));
        while (calls < most) {
            act(WEIGHTS[kind]);
        }
        wholeState();
    }

    public static void main(String[] args) {
        long first = args.length > 0 ? Long.parseLong(args[0]) : 1;
        long many = args.length > 1 ? Long.parseLong(args[1]) : 700;
        for (long seed = first; seed < first + many && wrong < 20; seed++) {
            new ModelTest(seed).play();
        }
        if (System.getProperty("tally") != null) {
            TALLY.forEach((k, v) -> System.out.println(k + ": " + v[0] + " answered, " + v[1] + " thrown"));
        }
        System.out.println(compared + " answers compared, " + wrong + " wrong");
        if (wrong != 0) {
            System.exit(1);
        }
    }
}
