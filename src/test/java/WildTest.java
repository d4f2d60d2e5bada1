import java.lang.reflect.InvocationTargetException;
import java.lang.reflect.Method;
import java.util.ArrayList;
import java.util.Arrays;
import java.util.Comparator;
import java.util.List;
import java.util.Random;

/** Wild arguments to every call: only what it declares may come, and a call that throws or asks changes nothing. */
public final class WildTest {
    private static final List<String> CHANGING = List.of("go", "town", "road", "rate", "broker", "put", "feed", "text",
            "tell", "pay", "back", "twin", "settle", "market", "goods", "cross", "expect", "falls", "tray", "write",
            "pour");
    private static final long[] WILD = {Integer.MIN_VALUE, Integer.MAX_VALUE, -2, -1, 0, 1, 2, 3, 4, 5, 6, 7, 8, 9, 10,
        11, 12, 13, 15, 16, 60, 61, 100, 101, 255, 256, 400, 999, 1000, 1001, 32767, 32768, 100000, 100001};

    private static int wrong = 0;

    public static void main(String[] args) throws Exception {
        List<Method> calls = new ArrayList<>();
        for (Method method : NoonWords.class.getDeclaredMethods()) {
            if (java.lang.reflect.Modifier.isPublic(method.getModifiers())) {
                calls.add(method);
            }
        }
        calls.sort(Comparator.comparing(Method::getName));
        Check.is("the face has 45 calls", 45, calls.size());
        for (int seed = 1; seed <= 40; seed++) {
            play(calls, seed);
        }
        Check.is("wild calls with a wrong end", 0, wrong);
        Check.end();
    }

    private static void play(List<Method> calls, int seed) throws Exception {
        Random random = new Random(seed);
        NoonWords x = new NoonWords();
        if (seed % 4 != 0) {
            furnish(x, random);
        }
        for (int k = 0; k < 250; k++) {
            Method call = calls.get(random.nextInt(calls.size()));
            if (call.getName().equals("falls") && random.nextInt(4) != 0) {
                continue;
            }
            Object[] given = arguments(call, random);
            long[] before = state(x);
            boolean threw = false;
            try {
                call.invoke(x, given);
            } catch (InvocationTargetException e) {
                threw = true;
                if (!Arrays.asList(call.getExceptionTypes()).contains(e.getCause().getClass())) {
                    tell(seed, call, given, "threw " + e.getCause());
                }
            }
            if ((threw || !CHANGING.contains(call.getName())) && !Arrays.equals(before, state(x))) {
                tell(seed, call, given, "changed something");
            }
        }
    }

    private static void tell(int seed, Method call, Object[] given, String what) {
        wrong++;
        System.out.println("seed " + seed + ": " + call.getName() + Arrays.toString(given) + " " + what);
    }

    private static void furnish(NoonWords x, Random random) {
        boolean full = random.nextBoolean();
        for (int k = 0; k < (full ? 8 : 4); k++) {
            x.town();
        }
        x.road(0, 1, 2);
        x.road(1, 2, 3);
        int brokers = full ? 12 : 7;
        for (int k = 0; k < brokers; k++) {
            x.broker(full ? k % 8 : k % 4, k % 3);
            x.put(k, k % 4, 500);
            x.put(k, 0, 50);
        }
        Check.text(x, "fee n/10;bears 50;rank near 3;", 255, 0);
        for (int k = 0; k < (random.nextBoolean() ? 60 : 385); k++) {
            int a = random.nextInt(brokers);
            int b = (a + 1 + random.nextInt(brokers - 1)) % brokers;
            x.goods(a, b, random.nextInt(4), 0, 1, random.nextInt(100));
        }
        for (int k = 0; k < 20; k++) {
            int a = random.nextInt(3);
            x.tell(a, (a + 1 + random.nextInt(2)) % 3, random.nextInt(4), 1 + random.nextInt(30), random.nextInt(3));
        }
        for (int tray = 0; tray < 3; tray++) {
            x.tray(tray, tray % 2, 10 + tray);
        }
        x.rate(0, 1, 130);
        x.go(random.nextInt(5) + 1);
    }

    private static Object[] arguments(Method call, Random random) {
        Class<?>[] types = call.getParameterTypes();
        Object[] given = new Object[types.length];
        for (int k = 0; k < types.length; k++) {
            int how = random.nextInt(10);
            long v = how == 0 ? random.nextLong() : how < 5 ? WILD[random.nextInt(WILD.length)] : random.nextInt(how < 8 ? 7 : 12);
            given[k] = types[k] == long.class ? (Object) v : types[k] == boolean.class ? (Object) (v > 2) : (Object) (int) v;
        }
        return given;
    }

    private static long[] state(NoonWords x) {
        List<Long> all = new ArrayList<>();
        for (int what = 0; what < 10; what++) {
            all.add((long) x.count(what));
        }
        all.add((long) x.fault(0));
        all.add((long) x.fault(1));
        for (int a = 0; a < x.count(1); a++) {
            for (int b = 0; b < x.count(1); b++) {
                all.add((long) x.lag(a, b));
            }
            for (int c = 0; c < 4; c++) {
                all.add((long) x.rateAt(a, c, 999));
                all.add((long) x.rateAt(a, c, x.count(0)));
            }
            all.add((long) x.lines(a, 999, 0));
        }
        for (int a = 0; a < x.count(2); a++) {
            all.add((long) x.fell(a));
            for (int c = 0; c < 4; c++) {
                all.add((long) x.drawer(a, c));
                all.add((long) x.dry(a, c, true));
                all.add((long) x.dry(a, c, false));
                for (int b = 0; b < x.count(2); b++) {
                    all.add((long) x.owes(a, b, c));
                }
            }
            for (int b = 0; b < x.count(2); b++) {
                all.add(x.hidden(a, b));
            }
        }
        for (int w = 0; w < x.count(5); w++) {
            for (int what = 0; what < 10; what++) {
                all.add((long) x.word(w, what));
            }
        }
        for (int tray = 0; tray < 4; tray++) {
            addTray(x, tray, all);
        }
        return all.stream().mapToLong(v -> v).toArray();
    }

    private static void addTray(NoonWords x, int tray, List<Long> all) {
        try {
            for (int place = 0; place < 60; place++) {
                all.add(x.read(tray, place));
            }
        } catch (IllegalStateException e) {
            all.add(-1L);
        } catch (IndexOutOfBoundsException e) {
            all.add(-2L);
        }
    }
}
