import java.util.Arrays;
import java.util.function.LongSupplier;

/** Counts answers that are not the ones due. */
final class Check {
    private static int wrong = 0;
    private static int asked = 0;

    private Check() {
    }

    static void is(String what, long want, long got) {
        asked++;
        if (want != got) {
            wrong++;
            System.out.println(what + ": answered " + got + ", due is " + want);
        }
    }

    static void none(String what, LongSupplier call) {
        fails(what, "NoSuchElementException", call);
    }

    static void argument(String what, LongSupplier call) {
        fails(what, "IllegalArgumentException", call);
    }

    static void state(String what, LongSupplier call) {
        fails(what, "IllegalStateException", call);
    }

    static void place(String what, LongSupplier call) {
        fails(what, "IndexOutOfBoundsException", call);
    }

    /** Calls that are all refused, and change nothing. */
    static void calm(String what, NoonWords x, Runnable refused) {
        long[] before = House.seen(x);
        refused.run();
        is(what + ": a call that throws changes nothing", 1, Arrays.equals(before, House.seen(x)) ? 1 : 0);
    }

    private static void fails(String what, String want, LongSupplier call) {
        asked++;
        String got;
        try {
            got = "answered " + call.getAsLong();
        } catch (RuntimeException e) {
            got = e.getClass().getSimpleName();
        }
        if (!got.equals(want)) {
            wrong++;
            System.out.println(what + ": " + got + ", due is " + want);
        }
    }

    /** A text comes to the tape. */
    static void type(NoonWords x, String text) {
        int[] four = new int[5];
        for (int at = 0; at < text.length(); at += 20) {
            for (int k = 0; k < 5; k++) {
                four[k] = 0;
                for (int j = 0; j < 4; j++) {
                    int place = at + 4 * k + j;
                    four[k] = four[k] << 8 | (place < text.length() ? text.charAt(place) : ' ');
                }
            }
            x.feed(four[0], four[1], four[2], four[3], four[4]);
        }
    }

    static int text(NoonWords x, String text, int towns, int day) {
        type(x, text);
        return x.text(text.length(), towns, day);
    }

    /** A text that has a fault. */
    static void fault(String text, int kind, int place) {
        NoonWords x = new NoonWords();
        is("text " + text, -10 - kind, text(x, text, 1, 0));
        is("fault of " + text, kind, x.fault(0));
        is("place of the fault of " + text, place, x.fault(1));
        is("a text with a fault counts for nothing: " + text, 0, x.count(4));
    }

    static void end() {
        System.out.println(wrong == 0 ? asked + " answers are as due" : wrong + " of " + asked + " answers are not as due");
        if (wrong != 0) {
            System.exit(1);
        }
    }
}
