import java.util.Random;

/** Long runs of calls, chosen by a fixed seed, answered by the class and by Oracle alike. */
public final class BothAgreeTest {
    private static final int RUNS = 2000;
    /** Behind 512 calls answers are free; the longest text takes some 85. */
    private static final int CALLS = 425;
    private static final int MOST_CALLS = 512;
    /** Found by search: five BELLS at REST, four in a PEAL. */
    private static final String[] LOUD = {
        "land 7 by 7 hunt 4 4;bell a at 6 2 rope 2;bell b at 0 1 rope 1;bell c at 6 4 rope 2;bell d at 5 6 rope 0;bell e at 2 4 rope 1;"
            + "walker f from 4 2 to 3 5 does 2;walker g from 4 1 to 6 4 does 2;walker h from 4 1 to 6 1 does 2;walker i from 1 1 to 6 3 does 2;"
            + "walker j from 5 6 to 4 0 does 2;harm 9;rides 1+hour;",
        "land 7 by 7 hunt 1 2;bell a at 3 3 rope 1;bell b at 4 2 rope 1;bell c at 5 1 rope 1;bell d at 5 2 rope 1;bell e at 0 1 rope 1;"
            + "walker f from 1 4 to 6 2 does 2;walker g from 5 0 to 3 1 does 2;walker h from 4 0 to 1 3 does 2;walker i from 3 4 to 0 2 does 2;"
            + "walker j from 1 4 to 6 0 does 2;walker k from 4 2 to 3 3 does 2;harm 9;rides 1+hour;"};
    private final Random random;
    private final WildHunt hunt = new WildHunt();
    private final Oracle oracle = new Oracle();
    private final StringBuilder log = new StringBuilder();
    private int calls = 0;
    private boolean wrong = false;

    private BothAgreeTest(long seed) {
        random = new Random(seed);
    }

    public static void main(String[] args) {
        int bad = 0;
        int runs = args.length > 0 ? Integer.parseInt(args[0]) : RUNS;
        for (int run = -LOUD.length; run < runs && bad < 5; run++) {
            BothAgreeTest test = new BothAgreeTest(run);
            if (run < 0) {
                test.runOver(LOUD[-1 - run]);
            } else {
                test.run();
            }
            if (test.calls > MOST_CALLS) {
                test.wrong = true;
                test.log.append("  ").append(test.calls).append(" calls are too many\n");
            }
            if (test.wrong) {
                bad++;
                System.out.println("run " + run + ":\n" + test.log);
            }
        }
        System.out.println(bad == 0 ? "both agree" : bad + " runs differ");
        if (bad != 0) {
            System.exit(1);
        }
    }

    private int upTo(int n) {
        return random.nextInt(n);
    }

    private boolean oneIn(int n) {
        return random.nextInt(n) == 0;
    }

    private String pick(String... of) {
        return of[upTo(of.length)];
    }

    private void same(String call, long got, long want) {
        calls++;
        log.append("  ").append(call).append(" -> ").append(got);
        if (got != want) {
            wrong = true;
            log.append(" but due is ").append(want);
        }
        log.append('\n');
    }

    private void same(String call, boolean got, boolean want) {
        same(call, got ? 1 : 0, want ? 1 : 0);
    }

    private void runOver(String text) {
        put(text);
        same("land", hunt.land(), oracle.land());
        for (int night = 0; night < 3; night++) {
            same("peal", hunt.peal(), oracle.peal());
            same("rest", hunt.rest(), oracle.rest());
            same("nights", hunt.nights(1), oracle.nights(1));
        }
    }

    private void run() {
        for (int k = 0; k < 5 && !wrong; k++) {
            if (oneIn(3)) {
                call();
            }
        }
        while (calls < CALLS && !wrong) {
            if (oneIn(60) || oracle.has(0) == 0 && oneIn(2)) {
                tellLand();
            } else {
                call();
            }
        }
    }

    // ---- texts

    private void put(byte[] bytes) {
        for (int from = 0; from < bytes.length && !wrong; from += 20) {
            int[] w = new int[5];
            for (int k = 0; k < 20; k++) {
                int b = from + k < bytes.length ? bytes[from + k] & 255 : 32;
                w[k / 4] = w[k / 4] << 8 | b;
            }
            same("feed", hunt.feed(w[0], w[1], w[2], w[3], w[4]), oracle.feed(w));
        }
        same("end " + bytes.length, hunt.end(bytes.length), oracle.end(bytes.length));
    }

    private void put(String text) {
        log.append("  text ").append(text).append('\n');
        byte[] bytes = new byte[text.length()];
        for (int k = 0; k < bytes.length; k++) {
            bytes[k] = (byte) text.charAt(k);
        }
        put(bytes);
    }

    private void faults() {
        same("fault(0)", hunt.fault(0), oracle.fault(0));
        same("fault(1)", hunt.fault(1), oracle.fault(1));
    }

    private void tellLand() {
        String text = landText();
        put(oneIn(3) ? spoilt(text) : text);
        same("land", hunt.land(), oracle.land());
        faults();
    }

    private String blank() {
        return oneIn(6) ? pick("  ", "\n", " \n ") : " ";
    }

    private String maybeBlank() {
        return oneIn(5) ? blank() : "";
    }

    private String landText() {
        int columns = 2 + upTo(6);
        int rows = 2 + upTo(6);
        if (oneIn(2)) {
            columns = 2 + upTo(3);
            rows = 2 + upTo(3);
        }
        StringBuilder s = new StringBuilder();
        s.append("land ").append(columns).append(" by ").append(rows).append(" hunt ").append(upTo(columns)).append(' ')
            .append(upTo(rows)).append(';');
        int count = oneIn(20) ? 70 + upTo(14) : 3 + upTo(12);
        boolean rides = false;
        boolean pays = false;
        boolean keeps = false;
        boolean[] taken = new boolean[49];
        int bells = 0;
        int walkers = 0;
        for (int k = 0; k < count && s.length() < 1300; k++) {
            s.append(maybeBlank());
            int column = upTo(columns);
            int row = upTo(rows);
            switch (count > 60 ? 9 : upTo(9)) {
                case 0 -> {
                    if (!taken[column * 7 + row] || oneIn(20)) {
                        s.append("chapel " + column + blank() + row);
                        taken[column * 7 + row] = true;
                    } else {
                        s.append("year 3");
                    }
                }
                case 1, 2 -> {
                    if (bells < 5 || oneIn(10)) {
                        s.append("bell " + (oneIn(30) ? "b" : "b" + (char) ('a' + bells)) + " at " + column + " " + row + " rope " + upTo(40));
                        bells++;
                    } else {
                        s.append("harm 30");
                    }
                }
                case 3, 4, 5 -> {
                    if (walkers < 6 || oneIn(10)) {
                        s.append("walker w" + (char) ('a' + walkers) + " from " + column + " " + row + " to " + upTo(columns) + " "
                            + upTo(rows) + " does " + upTo(4));
                        walkers++;
                    } else {
                        s.append("harm 31");
                    }
                }
                case 6 -> {
                    s.append(rides && !oneIn(10) ? "storm 40" : "rides " + sum(3, "hour", "night", "column", "row"));
                    rides = true;
                }
                case 7 -> {
                    s.append(pays && !oneIn(10) ? "year " + (1 + upTo(9)) : "pays " + sum(3, "hour", "night", "manner", "met", "purse"));
                    pays = true;
                }
                case 8 -> {
                    s.append(keeps && !oneIn(10) ? "storm " + upTo(101) : "keeps " + test(3, "hour", "night", "manner", "met", "purse"));
                    keeps = true;
                }
                default -> s.append(pick("year 2", "harm 5", "storm 7"));
            }
            s.append(maybeBlank()).append(';');
        }
        return s.toString();
    }

    private String number() {
        return oneIn(8) ? pick("9999", "0", "0007", "1000") : "" + upTo(13);
    }

    private String sum(int depth, String... parts) {
        StringBuilder s = new StringBuilder(part(depth, parts));
        while (oneIn(2) && s.length() < 150) {
            s.append(maybeBlank()).append(pick("+", "-", "*", "/")).append(maybeBlank()).append(part(depth, parts));
        }
        return s.toString();
    }

    private String part(int depth, String... parts) {
        int deeper = oneIn(6) ? depth : depth - 1;
        switch (depth <= 0 ? upTo(4) : upTo(8)) {
            case 0: case 1: return number();
            case 4: return "(" + maybeBlank() + sum(deeper, parts) + ")";
            case 5: return pick("min", "max") + maybeBlank() + "(" + sum(deeper, parts) + "," + sum(deeper, parts) + maybeBlank() + ")";
            default:
                String w = pick(parts);
                return w.equals("near") ? "near " + part(deeper, parts) : w;
        }
    }

    private String test(int depth, String... parts) {
        StringBuilder s = new StringBuilder(fact(depth, parts));
        while (oneIn(3) && s.length() < 200) {
            s.append(blank()).append(pick("or", "and")).append(blank()).append(fact(depth, parts));
        }
        return s.toString();
    }

    private String fact(int depth, String... parts) {
        int deeper = oneIn(6) ? depth : depth - 1;
        switch (depth <= 0 ? 4 + upTo(3) : upTo(7)) {
            case 0: return "not " + fact(deeper, parts);
            case 1: return "[" + maybeBlank() + test(deeper, parts) + "]";
            case 4: return oneIn(3) ? "all" : sum(depth, parts) + "=" + number();
            default: return sum(depth, parts) + maybeBlank() + pick("<", ">", "=") + maybeBlank() + sum(depth, parts);
        }
    }

    private String spoilt(String text) {
        if (text.isEmpty()) {
            return text;
        }
        int at = upTo(text.length());
        switch (upTo(8)) {
            case 0: return text.substring(0, at);
            case 1: return text.substring(0, at) + text.substring(at + 1);
            case 2: return text.substring(0, at) + (char) upTo(256) + text.substring(at + 1);
            case 3: return text.substring(0, at) + pick("(", "[", "not ", ";", " ", "x", "7", "near ", ")", "land", "12345") + text.substring(at);
            case 4: return text.substring(0, at) + (char) ('a' + upTo(26)) + text.substring(at + 1);
            case 5: return text.substring(0, at) + (char) ('0' + upTo(10)) + text.substring(at + 1);
            case 6: return text.replaceFirst("\\b(" + pick("from", "by", "at", "to", "hour", "rope", "row") + ")\\b", pick("to", "at", "zzz", "night", "gone", "3"));
            default:
                String deep = "((((([(not ".substring(upTo(5), 6 + upTo(5));
                return text.replaceFirst("hour", java.util.regex.Matcher.quoteReplacement(deep + "hour"));
        }
    }

    private void ask() {
        String[] parts = {"number", "column", "row", "manner", "met", "purse", "gone", "hour", "night", "near"};
        String text = oneIn(2) ? pick("first", "last", "often") + " " + test(3, parts) : pick("total", "most", "least") + " " + sum(3, parts);
        put(oneIn(4) ? spoilt(text) : text);
        same("ask", hunt.ask(), oracle.ask());
        faults();
    }

    private void image() {
        int size = oracle.image();
        same("image", hunt.image(), size);
        byte[] bytes = new byte[size];
        for (int k = 0; k < size; k++) {
            same("octet " + k, hunt.octet(k), oracle.octet(k));
            bytes[k] = (byte) oracle.octet(k);
        }
        same("octet beyond", hunt.octet(size), oracle.octet(size));
        if (oneIn(2)) {
            if (oneIn(2)) {
                change(bytes);
            }
            put(oneIn(10) ? java.util.Arrays.copyOf(bytes, size - 1 + upTo(3)) : bytes);
            same("on", hunt.on(), oracle.on());
        }
    }

    private void change(byte[] bytes) {
        int size = bytes.length - 1;
        for (int turns = upTo(3); turns >= 0; turns--) {
            int k = upTo(size);
            bytes[k] = (byte) (oneIn(2) ? upTo(256) : upTo(4));
        }
        if (oneIn(3)) {
            bytes[0] = 3;
            bytes[1] = (byte) (200 + upTo(35));
        }
        if (oneIn(4) && size > 3) {
            int w = 3 + 6 * upTo((size - 3) / 6);
            bytes[w + 1] = bytes[w + 3] = 39;
            bytes[w + 2] = (byte) (13 + upTo(4));
            bytes[w + 4] = (byte) (13 + upTo(4));
            bytes[w + 5] = (byte) (98 + upTo(3));
        }
        int check = 79;
        for (int k = 0; k < size; k++) {
            check = (3 * check + (bytes[k] & 255)) % 251;
        }
        bytes[size] = (byte) (oneIn(12) ? check + 1 : check);
    }

    private void see() {
        int rows = oneIn(8) ? upTo(15) : 1 + upTo(3);
        byte[] bytes = new byte[Math.max(0, rows * 3 + (oneIn(15) ? upTo(3) - 1 : 0))];
        for (int k = 0; k < bytes.length; k++) {
            bytes[k] = (byte) (k % 3 == 0 ? upTo(12) : upTo(4));
            int hour = bytes[k / 3 * 3];
            if (k % 3 != 0 && oneIn(2)) {
                bytes[k] = (byte) Math.max(0, oracle.hunt(hour, k % 3 - 1));
            }
        }
        if (bytes.length > 0 && oneIn(12)) {
            bytes[upTo(bytes.length)] = (byte) (oneIn(2) ? upTo(14) : upTo(256));
        }
        put(bytes);
        same("see", hunt.see(), oracle.see());
    }

    // ---- calls

    private int about(int n) {
        return oneIn(12) ? pickOf(-1, n, n + 1, Integer.MIN_VALUE, Integer.MAX_VALUE) : upTo(Math.max(1, n));
    }

    private int pickOf(int... of) {
        return of[upTo(of.length)];
    }

    private void call() {
        int bells = oracle.has(3);
        int walkers = oracle.has(4);
        int a = about(Math.max(walkers, bells));
        int b = about(6);
        switch (upTo(32)) {
            case 0 -> { int w = about(12); same("has " + w, hunt.has(w), oracle.has(w)); }
            case 1 -> { int k = about(2); same("letter " + k + " " + a + " " + b, hunt.letter(k, a, b), oracle.letter(k, a, b)); }
            case 2 -> { int x = about(7); int y = about(7); int w = about(3); same("cell " + x + " " + y + " " + w, hunt.cell(x, y, w), oracle.cell(x, y, w)); }
            case 3 -> { int x = about(bells); int w = about(5); same("bell " + x + " " + w, hunt.bell(x, w), oracle.bell(x, w)); }
            case 4, 5 -> { int x = about(walkers); int w = about(8); same("walker " + x + " " + w, hunt.walker(x, w), oracle.walker(x, w)); }
            case 6 -> { int k = about(oracle.has(9)); int w = about(4); same("told " + k + " " + w, hunt.told(k, w), oracle.told(k, w)); }
            case 7 -> { int h = about(12); int w = about(2); same("hunt " + h + " " + w, hunt.hunt(h, w), oracle.hunt(h, w)); }
            case 8 -> same("meets " + a, hunt.meets(a), oracle.meets(a));
            case 9, 10 -> same("safe " + a, hunt.safe(a), oracle.safe(a));
            case 11 -> same("peal", hunt.peal(), oracle.peal());
            case 12 -> same("rest", hunt.rest(), oracle.rest());
            case 13 -> { int n = about(61); int w = about(4); same("later " + n + " " + w, hunt.later(n, w), oracle.later(n, w)); }
            case 14 -> { int n = about(21); int w = about(3); same("chapel " + n + " " + w, hunt.chapel(n, w), oracle.chapel(n, w)); }
            case 15 -> same("first " + a, hunt.first(a), oracle.first(a));
            case 16 -> see();
            case 17 -> { int w = about(3); same("began " + w, hunt.began(w), oracle.began(w)); }
            case 18 -> { int w = about(2); same("tells " + w, hunt.tells(w), oracle.tells(w)); }
            case 19, 20 -> { int x = about(bells); int w = about(2); same("ring " + x + " " + w, hunt.ring(x, w), oracle.ring(x, w)); }
            case 21 -> { int x = about(walkers); int w = about(4); same("does " + x + " " + w, hunt.does(x, w), oracle.does(x, w)); }
            case 22, 23 -> { int n = oneIn(6) ? about(101) : about(8); same("nights " + n, hunt.nights(n), oracle.nights(n)); }
            case 24 -> { int n = oneIn(6) ? about(101) : about(8); same("chance " + n, hunt.chance(n), oracle.chance(n)); }
            case 25 -> same("undo", hunt.undo(), oracle.undo());
            case 26 -> { int n = oneIn(4) ? random.nextInt() : upTo(100); same("seed " + n, hunt.seed(n), oracle.seed(n)); }
            case 27, 28 -> ask();
            case 29 -> image();
            case 30 -> { int w = about(6); same("status " + w, hunt.status(w), oracle.status(w)); }
            default -> { int n = about(30); if (oneIn(4)) { same("end " + n, hunt.end(n), oracle.end(n)); } }
        }
    }
}
