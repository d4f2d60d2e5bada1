import java.util.ArrayList;
import java.util.Arrays;
import java.util.Comparator;
import java.util.List;
import java.util.NoSuchElementException;

/**
 * The document once more, as plainly as it can be put and by other ways than the class: nets are summed up from the
 * entries whenever they are asked, rings, groups and plans are all tried, texts are read by a table of what may follow.
 */
final class Model {
    static final class Rate {
        int day, town, coin, of;
    }

    static final class Broker {
        int town, kin, came, fell = -1;
        long[] drawer = new long[4];
    }

    static final class Entry {
        int day, town, from, to, coin, sort;
        long many;
    }

    static final class Word {
        int teller, payer, coin, many, secret, ready, stop, paid = -1, wrong, fee;
        Word twin, twinOf;
        boolean back;
    }

    static final class Good {
        int from, to;
        long hidden;
    }

    static final class Expected {
        int broker, coin, day, low, high;
    }

    static final class Text {
        int towns, day;
        List<List<String>> lines = new ArrayList<>();
    }

    int now = 0;
    int towns = 0;
    int[][] roads = new int[8][8];
    List<Rate> rates = new ArrayList<>();
    List<Broker> brokers = new ArrayList<>();
    List<Entry> entries = new ArrayList<>();
    List<Word> words = new ArrayList<>();
    List<Good> goodsSent = new ArrayList<>();
    List<Expected> expected = new ArrayList<>();
    List<Text> texts = new ArrayList<>();
    int[][] markets = new int[8][4];
    StringBuilder tape = new StringBuilder();
    int lastFault = 0;
    int lastPlace = -1;
    long[][] trays = new long[4][];
    int[] sorts = new int[4];

    static void found(boolean b) {
        if (!b) throw new NoSuchElementException();
    }

    static void arg(boolean b) {
        if (!b) throw new IllegalArgumentException();
    }

    static void state(boolean b) {
        if (!b) throw new IllegalStateException();
    }

    static void index(boolean b) {
        if (!b) throw new IndexOutOfBoundsException();
    }

    void hasTown(int t) {
        found(t >= 0 && t < towns);
    }

    Broker b(int k) {
        found(k >= 0 && k < brokers.size());
        return brokers.get(k);
    }

    Word w(int k) {
        found(k >= 0 && k < words.size());
        return words.get(k);
    }

    static void coinArg(int c) {
        arg(c >= 0 && c <= 3);
    }

    static void dayArg(int d) {
        arg(d >= 0 && d <= 999);
    }

    // ---- days, towns, coins

    int go(int days) {
        arg(days >= 1 && days <= 100);
        state(now + days <= 999);
        return now += days;
    }

    int town() {
        return towns == 8 ? -1 : towns++;
    }

    int road(int a, int b, int days) {
        hasTown(a);
        hasTown(b);
        arg(a != b);
        arg(days >= 1 && days <= 9);
        int was = roads[a][b] == 0 ? -1 : roads[a][b];
        roads[a][b] = days;
        roads[b][a] = days;
        return was;
    }

    int lagFrom(int from, int to) {
        int[] far = new int[8];
        Arrays.fill(far, 10000);
        far[from] = 0;
        for (int k = 0; k < 8; k++) {
            for (int a = 0; a < 8; a++) {
                for (int b = 0; b < 8; b++) {
                    if (roads[a][b] > 0 && far[a] + roads[a][b] < far[b]) {
                        far[b] = far[a] + roads[a][b];
                    }
                }
            }
        }
        return far[to] >= 10000 ? -1 : far[to];
    }

    int lag(int from, int to) {
        hasTown(from);
        hasTown(to);
        return lagFrom(from, to);
    }

    boolean isHeard(int town, int on, int there, int day) {
        int lag = lagFrom(town, there);
        return lag >= 0 && on + lag <= day;
    }

    int rate(int town, int coin, int of) {
        hasTown(town);
        arg(coin >= 1 && coin <= 3 && of >= 1 && of <= 1000);
        if (rates.size() == 150) return -1;
        Rate r = new Rate();
        r.day = now;
        r.town = town;
        r.coin = coin;
        r.of = of;
        rates.add(r);
        return rates.size() - 1;
    }

    int rateHeard(int town, int coin, int day) {
        if (coin == 0) return 100;
        Rate best = null;
        for (Rate r : rates) {
            if (r.coin != coin || !isHeard(r.town, r.day, town, day)) continue;
            boolean take = best == null || r.day > best.day
                    || r.day == best.day && lagFrom(r.town, town) <= lagFrom(best.town, town);
            if (take) best = r;
        }
        return best == null ? 100 : best.of;
    }

    int rateAt(int town, int coin, int day) {
        hasTown(town);
        coinArg(coin);
        dayArg(day);
        return rateHeard(town, coin, day);
    }

    long worth(long n, int coin, int town) {
        long all = n * rateHeard(town, coin, now);
        long q = all / 100;
        return all % 100 < 0 ? q - 1 : q;
    }

    // ---- brokers

    int broker(int town, int kin) {
        hasTown(town);
        arg(kin >= 0 && kin <= 5);
        if (brokers.size() == 12) return -1;
        Broker b = new Broker();
        b.town = town;
        b.kin = kin;
        b.came = now;
        brokers.add(b);
        return brokers.size() - 1;
    }

    int put(int broker, int coin, int many) {
        Broker b = b(broker);
        coinArg(coin);
        state(b.fell < 0);
        state(b.drawer[coin] + many >= 0 && b.drawer[coin] + many <= 10000000);
        b.drawer[coin] += many;
        return (int) b.drawer[coin];
    }

    int drawer(int broker, int coin) {
        Broker b = b(broker);
        coinArg(coin);
        return (int) b.drawer[coin];
    }

    void comes(Broker b, int coin, long many) {
        b.drawer[coin] += many;
        if (b.drawer[coin] > 10000000) b.drawer[coin] = 10000000;
    }

    // ---- custom

    int feed(int a, int b, int c, int d, int e) {
        if (tape.length() + 20 > 400) return -1;
        for (int four : new int[] {a, b, c, d, e}) {
            tape.append((char) (four >>> 24)).append((char) (four >>> 16 & 255));
            tape.append((char) (four >>> 8 & 255)).append((char) (four & 255));
        }
        return tape.length();
    }

    int text(int n, int forTowns, int day) {
        arg(n >= 0 && n <= tape.length());
        arg(forTowns >= 1 && forTowns <= 255);
        dayArg(day);
        String s = tape.substring(0, n);
        tape.setLength(0);
        if (texts.size() == 6) return -1;
        Text t = new Text();
        t.towns = forTowns;
        t.day = day;
        lastFault = 0;
        lastPlace = -1;
        follow(s, t);
        if (lastFault != 0) return -10 - lastFault;
        texts.add(t);
        return t.lines.size();
    }

    int fault(int what) {
        return what == 0 ? lastFault : what == 1 ? lastPlace : -1;
    }

    static final List<String> SAYS = List.of("fee", "dies", "bound", "rank", "bears", "loss", "ban", "void");
    static final List<String> NAMES = List.of("n", "coin", "way", "seasons", "kin", "day", "time", "from", "to");

    // Goes along the text; open holds what is not ended: V a said sum, L and R a comparison's sides, ( [ and n for not.
    void follow(String s, Text t) {
        int at = 0;
        String mode = "line";
        StringBuilder open = new StringBuilder();
        List<String> line = new ArrayList<>();
        while (true) {
            while (at < s.length() && (s.charAt(at) == 10 || s.charAt(at) == 32)) at++;
            String token = tokenAt(s, at);
            if (token == null) {
                lastFault = 1;
                lastPlace = at;
                return;
            }
            if (token.isEmpty() && mode.equals("line")) return;
            String then = token.isEmpty() ? null : after(token, mode, open);
            int kind = then == null ? 2 : 0;
            boolean number = !token.isEmpty() && Character.isDigit(token.charAt(0));
            if (kind == 0 && mode.equals("line") && t.lines.size() == 24) kind = 3;
            if (kind == 0 && number && (mode.equals("line") || mode.equals("void"))) {
                int v = Integer.parseInt(token);
                if (v == 0 || v > 999) kind = 4;
            }
            long deep = open.chars().filter(c -> c == '(' || c == '[' || c == 'n').count();
            if (kind == 0 && (token.equals("(") || token.equals("[") || token.equals("not")) && deep == 6) kind = 5;
            if (kind != 0) {
                lastFault = kind;
                lastPlace = token.isEmpty() ? s.length() : at;
                return;
            }
            line.add(token);
            if (then.equals("line")) {
                t.lines.add(line);
                line = new ArrayList<>();
            }
            mode = then;
            at += token.length();
        }
    }

    static String tokenAt(String s, int at) {
        if (at == s.length()) return "";
        int end = at;
        while (end < s.length() && s.charAt(end) >= 'a' && s.charAt(end) <= 'z') end++;
        if (end > at) return s.substring(at, end);
        while (end < s.length() && s.charAt(end) >= '0' && s.charAt(end) <= '9') end++;
        if (end > at) return end - at > 6 ? null : s.substring(at, end);
        return ";:<>=+-*/%()[]".indexOf(s.charAt(at)) < 0 ? null : s.substring(at, at + 1);
    }

    static char top(StringBuilder open) {
        return open.length() == 0 ? ' ' : open.charAt(open.length() - 1);
    }

    static void drop(StringBuilder open) {
        open.setLength(open.length() - 1);
    }

    // Which mode follows a token in a mode; null if it can't stand there.
    static String after(String token, String mode, StringBuilder open) {
        boolean number = Character.isDigit(token.charAt(0));
        switch (mode) {
            case "line":
                if (number) return "colon";
                return says(token, open);
            case "colon":
                return token.equals(":") ? "says" : null;
            case "says":
                return says(token, open);
            case "rank":
                if (!List.of("kin", "near", "far").contains(token)) return null;
                open.append('V');
                return "atom";
            case "loss":
                return token.equals("teller") || token.equals("payer") ? "said" : null;
            case "void":
                return number ? "said" : null;
            case "said":
                return token.equals("unless") ? "one" : token.equals(";") ? "line" : null;
            case "one":
                if (token.equals("not")) {
                    open.append('n');
                    return "one";
                }
                if (token.equals("[")) {
                    open.append('[');
                    return "one";
                }
                open.append('L');
                return after(token, "atom", open);
            case "atom":
                if (number || NAMES.contains(token)) return "behind";
                if (!token.equals("(")) return null;
                open.append('(');
                return "atom";
            case "behind":
                return behind(token, open);
            default:
                if (token.equals("or") || token.equals("and")) return "one";
                if (token.equals("]") && top(open) == '[') {
                    drop(open);
                    while (top(open) == 'n') drop(open);
                    return "tested";
                }
                return token.equals(";") && open.length() == 0 ? "line" : null;
        }
    }

    static String says(String token, StringBuilder open) {
        if (!SAYS.contains(token)) return null;
        if (token.equals("ban")) return "said";
        if (token.equals("rank") || token.equals("loss") || token.equals("void")) return token;
        open.append('V');
        return "atom";
    }

    static String behind(String token, StringBuilder open) {
        if ("+-*/%".contains(token)) return "atom";
        char top = top(open);
        if (top == '(') {
            if (!token.equals(")")) return null;
            drop(open);
            return "behind";
        }
        if (top == 'L') {
            if (!"<>=".contains(token)) return null;
            drop(open);
            open.append('R');
            return "atom";
        }
        drop(open);
        if (top == 'V') return after(token, "said", open);
        while (top(open) == 'n') drop(open);
        return after(token, "tested", open);
    }

    List<List<String>> standing(int town, int day) {
        List<Text> all = new ArrayList<>(texts);
        all.sort(Comparator.comparingInt(t -> t.day));
        List<List<String>> lines = new ArrayList<>();
        for (Text t : all) {
            if (t.day <= day && (t.towns & 1 << town) != 0) lines.addAll(t.lines);
        }
        return lines;
    }

    static boolean isVoid(List<List<String>> lines, int k) {
        if (!Character.isDigit(lines.get(k).get(0).charAt(0))) return false;
        int number = Integer.parseInt(lines.get(k).get(0));
        for (int j = k + 1; j < lines.size(); j++) {
            List<String> line = lines.get(j);
            int v = line.indexOf("void");
            if (v >= 0 && Integer.parseInt(line.get(v + 1)) == number) return true;
        }
        return false;
    }

    int lines(int town, int day, int what) {
        hasTown(town);
        dayArg(day);
        arg(what == 0 || what == 1);
        List<List<String>> lines = standing(town, day);
        if (what == 0) return lines.size();
        int n = 0;
        for (int k = 0; k < lines.size(); k++) {
            if (isVoid(lines, k)) n++;
        }
        return n;
    }

    static final class Halved extends RuntimeException {
        private static final long serialVersionUID = 1;
    }

    /** Reckons a line's tokens as they stand; what isn't asked is gone over dead. */
    static final class Reckoner {
        final List<String> tokens;
        final long[] names;
        int at;

        Reckoner(List<String> tokens, int at, long[] names) {
            this.tokens = tokens;
            this.at = at;
            this.names = names;
        }

        boolean sees(String... any) {
            return at < tokens.size() && List.of(any).contains(tokens.get(at));
        }

        boolean test(boolean live) {
            boolean v = part(live);
            while (sees("or")) {
                at++;
                boolean r = part(live && !v);
                v = v || r;
            }
            return v;
        }

        boolean part(boolean live) {
            boolean v = one(live);
            while (sees("and")) {
                at++;
                boolean r = one(live && v);
                v = v && r;
            }
            return v;
        }

        boolean one(boolean live) {
            if (sees("not")) {
                at++;
                return !one(live);
            }
            if (sees("[")) {
                at++;
                boolean v = test(live);
                at++;
                return v;
            }
            long left = sum(live);
            String compares = tokens.get(at++);
            long right = sum(live);
            return compares.equals("<") ? left < right : compares.equals(">") ? left > right : left == right;
        }

        long sum(boolean live) {
            long v = item(live);
            while (sees("+", "-")) {
                boolean plus = tokens.get(at++).equals("+");
                long r = item(live);
                v = plus ? v + r : v - r;
            }
            return v;
        }

        long item(boolean live) {
            long v = atom(live);
            while (sees("*", "/", "%")) {
                String sign = tokens.get(at++);
                long r = atom(live);
                if (sign.equals("*")) {
                    v = v * r;
                } else if (r == 0) {
                    if (live) throw new Halved();
                } else {
                    v = sign.equals("/") ? v / r : v % r;
                }
            }
            return v;
        }

        long atom(boolean live) {
            String token = tokens.get(at++);
            if (token.equals("(")) {
                long v = sum(live);
                at++;
                return v;
            }
            return NAMES.contains(token) ? names[NAMES.indexOf(token)] : Long.parseLong(token);
        }
    }

    int asked(int a, int b, long n, int coin, int what) {
        Broker x = brokers.get(a);
        Broker y = brokers.get(b);
        long[] names = {n, coin, lagFrom(x.town, y.town), (now - x.came) / 90, x.kin == y.kin ? 1 : 0, now,
            now / 90 % 4, x.town, y.town};
        long[] said = {0, 60, 1000000, 0, 0, 0, 0, 0, 0};
        List<List<String>> lines = standing(x.town, now);
        for (int k = 0; k < lines.size(); k++) {
            if (isVoid(lines, k)) continue;
            try {
                say(lines.get(k), names, said);
            } catch (Halved e) {
                continue;
            }
        }
        return (int) said[what];
    }

    static void say(List<String> line, long[] names, long[] said) {
        int unless = line.indexOf("unless");
        if (unless >= 0 && new Reckoner(line, unless + 1, names).test(true)) return;
        int at = Character.isDigit(line.get(0).charAt(0)) ? 2 : 0;
        switch (line.get(at)) {
            case "fee":
                said[0] = clip(new Reckoner(line, at + 1, names).sum(true), 0, 100000);
                break;
            case "dies":
                said[1] = clip(new Reckoner(line, at + 1, names).sum(true), 1, 500);
                break;
            case "bound":
                said[2] = clip(new Reckoner(line, at + 1, names).sum(true), 0, 1000000000);
                break;
            case "rank":
                said[3 + List.of("kin", "near", "far").indexOf(line.get(at + 1))] =
                        clip(new Reckoner(line, at + 2, names).sum(true), -1000, 1000);
                break;
            case "bears":
                said[6] = clip(new Reckoner(line, at + 1, names).sum(true), 0, 100);
                break;
            case "loss":
                said[7] = line.get(at + 1).equals("teller") ? 1 : 0;
                break;
            case "ban":
                said[8] = 1;
                break;
            default:
                break;
        }
    }

    static long clip(long v, long least, long most) {
        return v < least ? least : v > most ? most : v;
    }

    int said(int a, int b, long n, int coin, int what) {
        b(a);
        b(b);
        coinArg(coin);
        arg(what >= 0 && what <= 8);
        return asked(a, b, n, coin, what);
    }

    // ---- words

    int lagOf(int a, int b) {
        return lagFrom(brokers.get(a).town, brokers.get(b).town);
    }

    boolean fallen(int b) {
        return brokers.get(b).fell >= 0;
    }

    int tell(int teller, int payer, int coin, int many, int secret) {
        b(teller);
        b(payer);
        arg(teller != payer);
        coinArg(coin);
        arg(many >= 1 && many <= 100000);
        arg(secret >= 0 && secret <= 32767);
        state(!fallen(teller));
        state(!fallen(payer));
        state(lagOf(teller, payer) >= 0);
        state(asked(teller, payer, many, coin, 8) == 0);
        int town = brokers.get(teller).town;
        long owed = worth(many, coin, town);
        for (int c = 0; c < 4; c++) owed += worth(netOf(teller, payer, c), c, town);
        state(owed <= asked(teller, payer, many, coin, 2));
        state(words.size() < 100);
        Word w = newWord(teller, payer, coin, many, secret);
        w.fee = asked(teller, payer, many, coin, 0);
        comes(brokers.get(teller), coin, many + w.fee);
        return words.size() - 1;
    }

    Word newWord(int teller, int payer, int coin, int many, int secret) {
        Word w = new Word();
        w.teller = teller;
        w.payer = payer;
        w.coin = coin;
        w.many = many;
        w.secret = secret;
        w.ready = now + lagOf(teller, payer);
        w.stop = w.ready + asked(teller, payer, many, coin, 1);
        words.add(w);
        return w;
    }

    static void stopAt(Word w, int day) {
        if (w.stop > day) w.stop = day;
    }

    static Word otherOf(Word w) {
        return w.twin != null ? w.twin : w.twinOf;
    }

    int pay(int word, int secret) {
        Word w = w(word);
        Broker payer = brokers.get(w.payer);
        state(w.paid < 0 && w.ready <= now && w.stop > now && payer.fell < 0 && payer.drawer[w.coin] >= w.many);
        state(entries.size() < 400);
        if (secret != w.secret) {
            w.wrong++;
            if (w.wrong == 3) stopAt(w, now);
            return 0;
        }
        payer.drawer[w.coin] -= w.many;
        w.paid = now;
        Word other = otherOf(w);
        if (other != null && other.paid < 0) stopAt(other, now + lagOf(w.payer, other.payer));
        if (other != null && other.paid >= 0 && asked(w.teller, w.payer, w.many, w.coin, 7) == 0) return 2;
        enter(payer.town, w.teller, w.payer, w.coin, w.many, 0);
        return 1;
    }

    boolean paidAsHeard(Word w) {
        return w != null && w.paid >= 0
                && isHeard(brokers.get(w.payer).town, w.paid, brokers.get(w.teller).town, now);
    }

    int back(int word) {
        Word w = w(word);
        Broker teller = brokers.get(w.teller);
        state(w.twinOf == null);
        state(!w.back);
        state(teller.fell < 0);
        state(!paidAsHeard(w) && !paidAsHeard(w.twin));
        state(teller.drawer[w.coin] >= w.many);
        teller.drawer[w.coin] -= w.many;
        w.back = true;
        int answer = 1;
        for (Word each : new Word[] {w, w.twin}) {
            if (each == null) continue;
            if (each.paid >= 0) answer = 0;
            else stopAt(each, now + lagOf(each.teller, each.payer));
        }
        return answer;
    }

    int twin(int word, int broker) {
        Word w = w(word);
        b(broker);
        state(w.twin == null && w.twinOf == null);
        state(!paidAsHeard(w));
        state(!w.back);
        state(w.stop > now);
        state(broker != w.teller && broker != w.payer);
        state(!fallen(broker) && !fallen(w.teller));
        state(lagOf(w.teller, broker) >= 0);
        state(words.size() < 100);
        Word t = newWord(w.teller, broker, w.coin, w.many, w.secret);
        t.twinOf = w;
        w.twin = t;
        if (w.paid >= 0) stopAt(t, w.paid + lagOf(w.payer, broker));
        return words.size() - 1;
    }

    int word(int word, int what) {
        Word w = w(word);
        arg(what >= 0 && what <= 9);
        Word other = otherOf(w);
        int is = w.stop <= now ? 3 : 0;
        if (w.back || w.twinOf != null && w.twinOf.back) is = 2;
        if (w.paid >= 0) is = 1;
        int[] all = {w.teller, w.payer, w.coin, w.many, w.ready, w.stop, is, w.wrong,
            other == null ? -1 : words.indexOf(other), w.fee};
        return all[what];
    }

    // ---- debts

    void enter(int town, int from, int to, int coin, long many, int sort) {
        Entry e = new Entry();
        e.day = now;
        e.town = town;
        e.from = from;
        e.to = to;
        e.coin = coin;
        e.many = many;
        e.sort = sort;
        entries.add(e);
    }

    long netOf(int a, int b, int coin) {
        long sum = 0;
        for (Entry e : entries) {
            if (e.coin != coin) continue;
            if (e.from == a && e.to == b) sum += e.many;
            if (e.from == b && e.to == a) sum -= e.many;
        }
        return sum;
    }

    int owes(int a, int b, int coin) {
        b(a);
        b(b);
        coinArg(coin);
        return (int) netOf(a, b, coin);
    }

    int heard(int asks, int a, int b, int coin, int day) {
        b(asks);
        b(a);
        b(b);
        coinArg(coin);
        dayArg(day);
        state(asks == a || asks == b);
        List<Entry> all = entries;
        entries = new ArrayList<>();
        for (Entry e : all) {
            if (isHeard(e.town, e.day, brokers.get(asks).town, day)) entries.add(e);
        }
        long net = netOf(a, b, coin);
        entries = all;
        return (int) net;
    }

    long worthOfNets(int a, int b, int town) {
        long sum = 0;
        for (int c = 0; c < 4; c++) sum += worth(netOf(a, b, c), c, town);
        return sum;
    }

    long claim(int a, int b) {
        b(a);
        b(b);
        return Math.max(0, worthOfNets(a, b, brokers.get(a).town));
    }

    int settle(int a, int b, int coin, int many) {
        b(a);
        b(b);
        arg(a != b);
        coinArg(coin);
        arg(many >= 1);
        state(!fallen(a) && !fallen(b));
        state(netOf(a, b, coin) >= many);
        state(brokers.get(a).drawer[coin] >= many);
        state(entries.size() < 400);
        brokers.get(a).drawer[coin] -= many;
        comes(brokers.get(b), coin, many);
        enter(brokers.get(b).town, a, b, coin, -many, 1);
        return (int) netOf(a, b, coin);
    }

    int market(int town, int kind, int price) {
        hasTown(town);
        arg(kind >= 0 && kind <= 3);
        arg(price >= 0 && price <= 10000);
        int was = markets[town][kind];
        markets[town][kind] = price;
        return was;
    }

    int goods(int a, int b, int coin, int kind, int many, int price) {
        b(a);
        b(b);
        arg(a != b);
        coinArg(coin);
        arg(kind >= 0 && kind <= 3 && many >= 1 && many <= 100 && price >= 0 && price <= 1000);
        state(!fallen(a) && !fallen(b));
        state(entries.size() < 400);
        int town = brokers.get(b).town;
        Good g = new Good();
        g.from = a;
        g.to = b;
        g.hidden = worth((long) many * price, coin, town) - (long) many * markets[town][kind];
        goodsSent.add(g);
        enter(town, a, b, coin, -(long) many * price, 2);
        return (int) netOf(a, b, coin);
    }

    long hidden(int a, int b) {
        b(a);
        b(b);
        long sum = 0;
        for (Good g : goodsSent) {
            if (g.from == a && g.to == b) sum += g.hidden;
        }
        return sum;
    }

    long crossOf(List<Integer> ring, long[][] nets) {
        long least = Long.MAX_VALUE;
        for (int k = 0; k < ring.size(); k++) {
            least = Math.min(least, nets[ring.get(k)][ring.get((k + 1) % ring.size())]);
        }
        return least;
    }

    void allRings(List<Integer> path, int most, long[][] nets, List<List<Integer>> into) {
        if (path.size() >= 3 && crossOf(path, nets) > 0) into.add(new ArrayList<>(path));
        if (path.size() == most) return;
        for (int k = 0; k < brokers.size(); k++) {
            if (path.contains(k) || !path.isEmpty() && k < path.get(0)) continue;
            if (!path.isEmpty() && nets[path.get(path.size() - 1)][k] <= 0) continue;
            path.add(k);
            allRings(path, most, nets, into);
            path.remove(path.size() - 1);
        }
    }

    List<Integer> bestRing(int coin, int most) {
        long[][] nets = nets(coin);
        List<List<Integer>> all = new ArrayList<>();
        allRings(new ArrayList<>(), most, nets, all);
        all.sort((x, y) -> {
            int c = Long.compare(crossOf(y, nets) * y.size(), crossOf(x, nets) * x.size());
            if (c == 0) c = Integer.compare(x.size(), y.size());
            for (int k = 0; c == 0 && k < x.size(); k++) c = Integer.compare(x.get(k), y.get(k));
            return c;
        });
        return all.isEmpty() ? null : all.get(0);
    }

    long[][] nets(int coin) {
        int n = brokers.size();
        long[][] nets = new long[n][n];
        for (int a = 0; a < n; a++) {
            for (int b = 0; b < n; b++) nets[a][b] = netOf(a, b, coin);
        }
        return nets;
    }

    int ring(int coin, int most, int what) {
        coinArg(coin);
        arg(most >= 3 && most <= 5);
        arg(what >= -2 && what <= 4);
        List<Integer> ring = bestRing(coin, most);
        if (ring == null) return -1;
        if (what == -1) return (int) crossOf(ring, nets(coin));
        if (what == -2) return ring.size();
        return what < ring.size() ? ring.get(what) : -1;
    }

    int cross(int coin, int most) {
        coinArg(coin);
        arg(most >= 3 && most <= 5);
        List<Integer> ring = bestRing(coin, most);
        if (ring == null) return 0;
        state(entries.size() + ring.size() <= 400);
        long cross = crossOf(ring, nets(coin));
        for (int k = 0; k < ring.size(); k++) {
            int to = ring.get((k + 1) % ring.size());
            enter(brokers.get(to).town, ring.get(k), to, coin, -cross, 3);
        }
        return (int) cross;
    }

    // All ways to part a set of those who aren't even into groups of 0; the least number's group is tried first.
    void allWays(int rest, long[] even, List<Integer> way, List<List<Integer>> into) {
        if (rest == 0) {
            into.add(new ArrayList<>(way));
            return;
        }
        int least = Integer.lowestOneBit(rest);
        for (int group = 1; group <= rest; group++) {
            if ((group & rest) != group || (group & least) == 0) continue;
            long sum = 0;
            for (int k = 0; k < even.length; k++) sum += (group & 1 << k) != 0 ? even[k] : 0;
            if (sum != 0) continue;
            way.add(group);
            allWays(rest & ~group, even, way, into);
            way.remove(way.size() - 1);
        }
    }

    List<long[]> settlings(int coin, int set) {
        int n = brokers.size();
        long[] even = new long[n];
        int uneven = 0;
        for (int a = 0; a < n; a++) {
            if ((set & 1 << a) == 0) continue;
            for (int b = 0; b < n; b++) {
                if ((set & 1 << b) != 0) even[a] -= netOf(a, b, coin);
            }
            if (even[a] != 0) uneven |= 1 << a;
        }
        List<List<Integer>> ways = new ArrayList<>();
        allWays(uneven, even, new ArrayList<>(), ways);
        ways.sort((x, y) -> {
            int c = Integer.compare(y.size(), x.size());
            for (int k = 0; c == 0 && k < x.size(); k++) c = Integer.compare(x.get(k), y.get(k));
            return c;
        });
        List<long[]> steps = new ArrayList<>();
        for (int group : ways.get(0)) {
            while (true) {
                int owes = -1;
                int owed = -1;
                for (int k = n - 1; k >= 0; k--) {
                    if ((group & 1 << k) == 0) continue;
                    if (even[k] < 0) owes = k;
                    if (even[k] > 0) owed = k;
                }
                if (owes < 0) break;
                long pays = Math.min(-even[owes], even[owed]);
                even[owes] += pays;
                even[owed] -= pays;
                steps.add(new long[] {owes, owed, pays});
            }
        }
        return steps;
    }

    void setArg(int set) {
        arg(set >= 1 && set < 1 << brokers.size() && Integer.bitCount(set) <= 9);
    }

    int fewest(int coin, int set) {
        coinArg(coin);
        setArg(set);
        return settlings(coin, set).size();
    }

    int step(int coin, int set, int k, int what) {
        coinArg(coin);
        setArg(set);
        arg(what >= 0 && what <= 2);
        List<long[]> steps = settlings(coin, set);
        return k < 0 || k >= steps.size() ? -1 : (int) steps.get(k)[what];
    }

    int entry(int k, int what) {
        found(k >= 0 && k < entries.size());
        arg(what >= 0 && what <= 6);
        Entry e = entries.get(k);
        return (int) new long[] {e.day, e.town, e.from, e.to, e.coin, e.many, e.sort}[what];
    }

    // ---- what comes

    int expect(int broker, int coin, int day, int low, int high) {
        b(broker);
        coinArg(coin);
        dayArg(day);
        arg(day >= now);
        arg(low >= -1000000 && low <= 1000000);
        arg(high >= -1000000 && high <= 1000000);
        arg(low <= high);
        if (expected.size() == 80) return -1;
        Expected e = new Expected();
        e.broker = broker;
        e.coin = coin;
        e.day = day;
        e.low = low;
        e.high = high;
        expected.add(e);
        return expected.size() - 1;
    }

    long expectedBy(int broker, int coin, int day, boolean high) {
        long sum = brokers.get(broker).drawer[coin];
        for (Expected e : expected) {
            if (e.broker == broker && e.coin == coin && e.day >= now && e.day <= day) sum += high ? e.high : e.low;
        }
        return sum;
    }

    int dry(int broker, int coin, boolean surely) {
        b(broker);
        coinArg(coin);
        for (int day = now; day <= 999; day++) {
            long sum = expectedBy(broker, coin, day, surely);
            for (Word w : words) {
                if (!surely && w.payer == broker && w.coin == coin && w.paid < 0 && w.ready <= day
                        && w.stop > now && w.stop > w.ready) {
                    sum -= w.many;
                }
            }
            if (sum < 0) return day;
        }
        return -1;
    }

    int plan(int coin, long debts, int many, int weeks, int what) {
        coinArg(coin);
        arg(many >= 1 && many <= 6);
        arg(weeks >= 1 && weeks <= 4);
        arg(what >= -1 && what < many);
        int[] from = new int[many];
        int[] to = new int[many];
        for (int k = 0; k < many; k++) {
            from[k] = (int) (debts >> 8 * k & 15);
            to[k] = (int) (debts >> 8 * k + 4 & 15);
            arg(from[k] < brokers.size() && to[k] < brokers.size());
            arg(netOf(from[k], to[k], coin) > 0);
            for (int j = 0; j < k; j++) arg(from[j] != from[k] || to[j] != to[k]);
        }
        long[][] flow = new long[weeks + 1][brokers.size()];
        for (int week = 1; week <= weeks; week++) {
            for (int b = 0; b < brokers.size(); b++) flow[week][b] = expectedBy(b, coin, now + 7 * week, false);
        }
        int[] best = null;
        int[] plan = new int[many];
        Arrays.fill(plan, 1);
        while (true) {
            if (isRight(plan, from, to, coin, flow) && (best == null || compare(plan, best) < 0)) best = plan.clone();
            int k = 0;
            while (k < many && plan[k] == weeks) plan[k++] = 1;
            if (k == many) break;
            plan[k]++;
        }
        if (best == null) return -1;
        return what == -1 ? Arrays.stream(best).max().getAsInt() : best[what];
    }

    boolean isRight(int[] plan, int[] from, int[] to, int coin, long[][] flow) {
        for (int week = 1; week < flow.length; week++) {
            for (int b = 0; b < brokers.size(); b++) {
                long sum = flow[week][b];
                for (int k = 0; k < plan.length; k++) {
                    if (plan[k] > week) continue;
                    if (from[k] == b) sum -= netOf(from[k], to[k], coin);
                    if (to[k] == b) sum += netOf(from[k], to[k], coin);
                }
                if (sum < 0) return false;
            }
        }
        return true;
    }

    static int compare(int[] x, int[] y) {
        int c = Integer.compare(Arrays.stream(x).max().getAsInt(), Arrays.stream(y).max().getAsInt());
        if (c == 0) c = Integer.compare(Arrays.stream(x).sum(), Arrays.stream(y).sum());
        return c == 0 ? Arrays.compare(x, y) : c;
    }

    // ---- a fall

    static void split(long sum, List<Integer> who, long[] weights, long[] into) {
        long all = 0;
        for (int k : who) all += weights[k];
        if (all == 0) return;
        long total = all;
        long left = sum;
        for (int k : who) {
            into[k] = sum * weights[k] / total;
            left -= into[k];
        }
        List<Integer> order = new ArrayList<>(who);
        order.sort((x, y) -> {
            int c = Long.compare(sum * weights[y] % total, sum * weights[x] % total);
            return c == 0 ? Integer.compare(x, y) : c;
        });
        for (int k = 0; k < left; k++) into[order.get(k)]++;
    }

    long estate(int b) {
        long sum = 0;
        for (int c = 0; c < 4; c++) sum += worth(brokers.get(b).drawer[c], c, brokers.get(b).town);
        return sum;
    }

    // What each of these has of a broker's estate.
    long[] shares(int broker, List<Integer> creditors) {
        int n = brokers.size();
        long[] claims = new long[n];
        int[] ranks = new int[n];
        for (int k : creditors) {
            claims[k] = claim(broker, k);
            Broker x = brokers.get(broker);
            Broker y = brokers.get(k);
            int whom = x.kin == y.kin ? 3 : x.town == y.town ? 4 : 5;
            ranks[k] = asked(broker, k, claims[k], 0, whom);
        }
        long[] has = new long[n];
        long left = estate(broker);
        for (int rank = 1000; rank >= -1000; rank--) {
            List<Integer> these = new ArrayList<>();
            long want = 0;
            for (int k : creditors) {
                if (ranks[k] == rank) {
                    these.add(k);
                    want += claims[k];
                }
            }
            if (left >= want) {
                for (int k : these) has[k] = claims[k];
                left -= want;
            } else {
                split(left, these, claims, has);
                left = 0;
            }
        }
        return has;
    }

    List<Integer> creditors(int broker, int without) {
        List<Integer> all = new ArrayList<>();
        for (int k = 0; k < brokers.size(); k++) {
            if (k != broker && (without & 1 << k) == 0 && claim(broker, k) > 0) all.add(k);
        }
        return all;
    }

    int fallenSet() {
        int set = 0;
        for (int k = 0; k < brokers.size(); k++) set |= fallen(k) ? 1 << k : 0;
        return set;
    }

    long falls(int broker) {
        Broker b = b(broker);
        state(b.fell < 0);
        int n = brokers.size();
        List<Integer> creditors = creditors(broker, fallenSet());
        long[] has = shares(broker, creditors);
        long[] misses = new long[n];
        long missing = 0;
        for (int k : creditors) {
            misses[k] = claim(broker, k) - has[k];
            missing += misses[k];
        }
        long borne = missing * asked(broker, broker, missing, 0, 6) / 100;
        List<Integer> kin = new ArrayList<>();
        for (int k = 0; k < n; k++) {
            if (k != broker && !fallen(k) && brokers.get(k).kin == b.kin) kin.add(k);
        }
        long[] bears = new long[n];
        long all = 0;
        for (int k : kin) {
            long there = Math.min(10000000, brokers.get(k).drawer[0] + has[k]);
            bears[k] = Math.min(borne / kin.size(), there);
            all += bears[k];
        }
        long[] more = new long[n];
        split(all, creditors, misses, more);
        int come = 0;
        for (int k = 0; k < n; k++) come += (has[k] > 0 ? 1 : 0) + (more[k] > 0 ? 1 : 0);
        state(entries.size() + come <= 400);
        for (Word w : words) {
            if (w.teller == broker && w.paid < 0) stopAt(w, now + lagOf(broker, w.payer));
        }
        b.drawer = new long[4];
        b.fell = now;
        for (int k = 0; k < n; k++) {
            comes(brokers.get(k), 0, has[k]);
            if (has[k] > 0) enter(b.town, broker, k, 0, -has[k], 4);
        }
        for (int k : kin) brokers.get(k).drawer[0] -= bears[k];
        for (int k = 0; k < n; k++) {
            comes(brokers.get(k), 0, more[k]);
            if (more[k] > 0) enter(b.town, broker, k, 0, -more[k], 5);
        }
        return missing - all;
    }

    int fell(int broker) {
        return b(broker).fell;
    }

    long wealthBy(int x, int down) {
        long sum = estate(x);
        for (int other = 0; other < brokers.size(); other++) {
            if (other == x) continue;
            long worth = worthOfNets(other, x, brokers.get(x).town);
            if ((down & 1 << other) != 0 && worth > 0) worth = shares(other, creditors(other, down))[x];
            sum += worth;
        }
        return sum;
    }

    int ruin(int broker, int what) {
        b(broker);
        arg(what == 0 || what == 1);
        int down = fallenSet() | 1 << broker;
        for (int rounds = 0;; rounds++) {
            int more = 0;
            for (int k = 0; k < brokers.size(); k++) {
                if ((down & 1 << k) == 0 && wealthBy(k, down) < 0) more |= 1 << k;
            }
            if (more == 0) return what == 0 ? down : rounds;
            down |= more;
        }
    }

    long wealth(int broker) {
        b(broker);
        return wealthBy(broker, fallenSet());
    }

    int run(int broker, int days, int what) {
        b(broker);
        arg(days >= 0 && days <= 100);
        arg(what == 0 || what == 1);
        List<Integer> come = new ArrayList<>();
        int set = 0;
        for (int k : creditors(broker, fallenSet())) {
            int lag = lagOf(broker, k);
            if (lag >= 0 && lag <= days) {
                come.add(k);
                set |= 1 << k;
            }
        }
        if (what == 0) return set;
        come.sort(Comparator.comparingInt((Integer k) -> lagOf(broker, k)).thenComparingInt(k -> k));
        long left = estate(broker);
        for (int k : come) {
            if (left < claim(broker, k)) return k;
            left -= claim(broker, k);
        }
        return -1;
    }

    // ---- trays, books

    void tray(int tray, int sort, int many) {
        found(tray >= 0 && tray <= 3);
        arg(sort >= 0 && sort <= 3);
        arg(many >= 0 && many <= 60);
        trays[tray] = new long[many];
        sorts[tray] = sort;
    }

    long write(int tray, int place, long v) {
        found(tray >= 0 && tray <= 3);
        state(trays[tray] != null);
        index(place >= 0 && place < trays[tray].length);
        int shift = 64 - (8 << sorts[tray]);
        trays[tray][place] = v << shift >> shift;
        return trays[tray][place];
    }

    long read(int tray, int place) {
        found(tray >= 0 && tray <= 3);
        state(trays[tray] != null);
        index(place >= 0 && place < trays[tray].length);
        return trays[tray][place];
    }

    void pour(int from, int place, int to, int at, int many) {
        found(from >= 0 && from <= 3 && to >= 0 && to <= 3);
        state(trays[from] != null && trays[to] != null);
        state(sorts[from] == sorts[to]);
        index(place >= 0 && at >= 0 && many >= 0);
        index((long) place + many <= trays[from].length && (long) at + many <= trays[to].length);
        long[] these = Arrays.copyOfRange(trays[from], place, place + many);
        for (int k = 0; k < many; k++) trays[to][at + k] = these[k];
    }

    int book(int broker, int tray) {
        Broker b = b(broker);
        found(tray >= 0 && tray <= 3);
        if (trays[tray] == null) return -2;
        List<Long> book = new ArrayList<>();
        for (int c = 0; c < 4; c++) book.add(b.drawer[c]);
        for (int k = 0; k < brokers.size(); k++) {
            for (int c = 0; c < 4; c++) book.add(netOf(broker, k, c));
        }
        for (int k = 0; k < book.size(); k++) {
            if (k == trays[tray].length) return -3 - k;
            if (book.get(k) != trays[tray][k]) return k;
        }
        return -1;
    }

    int count(int what) {
        int[] all = {now, towns, brokers.size(), rates.size(), texts.size(), words.size(), entries.size(),
            expected.size(), Integer.bitCount(fallenSet()), tape.length()};
        return what >= 0 && what < all.length ? all[what] : -1;
    }
}
