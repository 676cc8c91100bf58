/** What the tests share: texts onto the tape, and answers against those that are due. */
final class Hand {
    private static int wrong = 0;
    private static int checked = 0;
    private static String where = "";

    private Hand() { }

    static void at(String place) {
        where = place;
    }

    static void due(String call, long got, long want) {
        checked++;
        if (got != want) {
            wrong++;
            System.out.println(where + ": " + call + " answered " + got + ", due is " + want);
        }
    }

    static void due(String call, boolean got, boolean want) {
        due(call, got ? 1 : 0, want ? 1 : 0);
    }

    static void end() {
        System.out.println(wrong == 0 ? checked + " answers are as due" : wrong + " answers are not as due");
        if (wrong != 0) {
            System.exit(1);
        }
    }

    /** Puts the bytes onto an empty tape. */
    static void put(WildHunt x, int... bytes) {
        for (int from = 0; from < bytes.length; from += 20) {
            int[] w = new int[5];
            for (int k = 0; k < 20; k++) {
                w[k / 4] = w[k / 4] << 8 | (from + k < bytes.length ? bytes[from + k] : 32);
            }
            x.feed(w[0], w[1], w[2], w[3], w[4]);
        }
        x.end(bytes.length);
    }

    static void put(WildHunt x, String text) {
        put(x, text.chars().toArray());
    }

    static int land(WildHunt x, String text) {
        put(x, text);
        return x.land();
    }

    static WildHunt over(String text) {
        WildHunt x = new WildHunt();
        if (land(x, text) == WildHunt.NONE) {
            due("land() of " + text + " with FAULT " + x.fault(0) + " at " + x.fault(1), 0, 1);
        }
        return x;
    }

    static long ask(WildHunt x, String text) {
        put(x, text);
        return x.ask();
    }

    /** AN IMAGE's bytes with the last byte that is due behind them. */
    static int[] checked(int... bytes) {
        int[] all = java.util.Arrays.copyOf(bytes, bytes.length + 1);
        int c = 79;
        for (int b : bytes) {
            c = (3 * c + b) % 251;
        }
        all[bytes.length] = c;
        return all;
    }
}
