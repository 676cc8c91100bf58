import java.util.function.BooleanSupplier;
import java.util.function.IntUnaryOperator;
import java.util.function.LongSupplier;

/** What the tests share: texts onto the tape, and answers against those that are due. */
final class Hand {
    private static final int NONE = -1;
    private static final long NOTHING = -1000000000000000L;
    private static final int REFUSED_KINDS = 6;
    /** Numbers that are no what, no hour and no which anywhere. */
    private static final int[] FAR_OFF = {Integer.MIN_VALUE, -2147483647, -65536, -256, -64, -32, -2, -1, 64, 256, 65536, 1 << 30, Integer.MAX_VALUE};
    private static int wrong = 0;
    private static int checked = 0;
    private static String where = "";

    private Hand() { }

    static void at(String place) {
        where = place;
    }

    static void due(String call, long got, long want) {
        checked++;
        if (got != want) {
            wrong++;
            System.out.println(where + ": " + call + " answered " + got + ", due is " + want);
        }
    }

    static void due(String call, boolean got, boolean want) {
        due(call, got ? 1 : 0, want ? 1 : 0);
    }

    static void end() {
        System.out.println(wrong == 0 ? checked + " answers are as due" : wrong + " answers are not as due");
        if (wrong != 0) {
            System.exit(1);
        }
    }

    /** Puts the bytes onto an empty tape. */
    static void put(WildHunt x, int... bytes) {
        for (int from = 0; from < bytes.length; from += 20) {
            int[] w = new int[5];
            for (int k = 0; k < 20; k++) {
                w[k / 4] = w[k / 4] << 8 | (from + k < bytes.length ? bytes[from + k] : 32);
            }
            x.feed(w[0], w[1], w[2], w[3], w[4]);
        }
        x.end(bytes.length);
    }

    static void put(WildHunt x, String text) {
        put(x, text.chars().toArray());
    }

    static int land(WildHunt x, String text) {
        put(x, text);
        return x.land();
    }

    static WildHunt over(String text) {
        WildHunt x = new WildHunt();
        if (land(x, text) == WildHunt.NONE) {
            due("land() of " + text + " with FAULT " + x.fault(0) + " at " + x.fault(1), 0, 1);
        }
        return x;
    }

    static long ask(WildHunt x, String text) {
        put(x, text);
        return x.ask();
    }

    /** AN IMAGE's bytes with the last byte that is due behind them. */
    static int[] checked(int... bytes) {
        int[] all = java.util.Arrays.copyOf(bytes, bytes.length + 1);
        int c = 79;
        for (int b : bytes) {
            c = (3 * c + b) % 251;
        }
        all[bytes.length] = c;
        return all;
    }

    // ---- FAULTS: in the text a ^ marks the place that is due

    static void good(int statements, String text) {
        WildHunt x = new WildHunt();
        due("land() of " + text, land(x, text), statements);
        due("fault(0) of " + text, x.fault(0), 0);
        due("fault(1) of " + text, x.fault(1), NONE);
    }

    static void faulty(int kind, String marked) {
        WildHunt x = over("land 2 by 2 hunt 0 0;year 2;");
        due("land() of " + marked, land(x, marked.replace("^", "")), NONE);
        due("fault(0) of " + marked, x.fault(0), kind);
        due("fault(1) of " + marked, x.fault(1), marked.indexOf('^'));
        due("refused, " + marked, x.status(1), 1);
        due("columns stay", x.has(0), 2);
    }

    static void asksWrong(int kind, String marked) {
        WildHunt x = over("land 2 by 2 hunt 0 0;");
        due("ask() of " + marked, ask(x, marked.replace("^", "")), NOTHING);
        due("fault(0) of " + marked, x.fault(0), kind);
        due("fault(1) of " + marked, x.fault(1), marked.indexOf('^'));
        due("tape goes", x.feed(0, 0, 0, 0, 0), 20);
    }

    // ---- refusals

    /** What can be seen of an object, in few calls; not how often it refused. */
    static String state(WildHunt x) {
        StringBuilder s = new StringBuilder();
        for (int k = 0; k < 12; k++) {
            s.append(x.has(k)).append(' ');
        }
        for (int k = 4; k < 8; k++) {
            s.append(x.walker(0, k)).append(' ').append(x.walker(1, k)).append(' ');
        }
        for (int k = 0; k < 4; k++) {
            s.append(x.told(0, k)).append(' ').append(x.told(x.has(9) - 1, k)).append(' ');
        }
        return s.append(x.bell(0, 3)).append(' ').append(x.began(1)).append(' ').append(x.began(2)).toString();
    }

    /** The call answers what is due, is counted as refused by that kind alone (by none, if it is NONE), and changes nothing. */
    static void refuses(String call, WildHunt x, int kind, long want, LongSupplier doing) {
        String before = state(x);
        int[] counts = new int[REFUSED_KINDS];
        for (int k = 0; k < REFUSED_KINDS; k++) {
            counts[k] = x.status(k);
        }
        due(call, doing.getAsLong(), want);
        for (int k = 0; k < REFUSED_KINDS; k++) {
            due(call + ", status " + k, x.status(k), counts[k] + (k == kind ? 1 : 0));
        }
        String after = state(x);
        due(call + " leaves " + before + ", is " + after, before.equals(after), true);
    }

    static void refuses(String call, WildHunt x, int kind, BooleanSupplier doing) {
        refuses(call, x, kind, 0, () -> doing.getAsBoolean() ? 1 : 0);
    }

    /** Least and most are answered, what lies beyond them and far off is NONE. */
    static void within(String call, int least, int most, IntUnaryOperator doing) {
        due(call + " " + least + " is there", doing.applyAsInt(least) != NONE, true);
        due(call + " " + most + " is there", doing.applyAsInt(most) != NONE, true);
        due(call + " " + (least - 1), doing.applyAsInt(least - 1), NONE);
        due(call + " " + (most + 1), doing.applyAsInt(most + 1), NONE);
        noneFarOff(call, doing);
    }

    static void noneFarOff(String call, IntUnaryOperator doing) {
        for (int far : FAR_OFF) {
            due(call + " " + far, doing.applyAsInt(far), NONE);
        }
    }
}
