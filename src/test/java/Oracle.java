import java.util.ArrayList;
import java.util.Arrays;
import java.util.HashMap;
import java.util.List;
import java.util.Map;
import java.util.Set;

/**
 * The document a second time, written for plainness alone, with other means than the class has:
 * letters one by one instead of words, trees instead of steps, whole copies instead of rows.
 */
final class Oracle {
    static final int NONE = -1;
    static final long NOTHING = -1000000000000000L;
    static final Set<String> OWN = Set.of("land", "by", "hunt", "chapel", "bell", "at", "rope", "walker", "from", "to",
        "does", "rides", "pays", "keeps", "year", "harm", "storm", "hour", "night", "column", "row", "manner", "met",
        "purse", "number", "gone", "near", "or", "and", "not", "all", "min", "max");
    static final int[][] WAY = {{0, 0}, {0, -1}, {1, -1}, {1, 0}, {1, 1}, {0, 1}, {-1, 1}, {-1, 0}, {-1, -1}};

    interface Tree {
        int of(Map<String, Integer> values, int[] near);
    }

    static final class Fault extends RuntimeException {
        private static final long serialVersionUID = 1L;
        final int kind;
        final int place;

        Fault(int kind, int place) {
            super(null, null, false, false);
            this.kind = kind;
            this.place = place;
        }
    }

    record Bell(String name, int column, int row, int rope) { }

    record Walker(String name, int column, int row, int toColumn, int toRow, int manner) { }

    static final class Country {
        int columns;
        int rows;
        int column;
        int row;
        int statements;
        int year = 12;
        int harm = 20;
        int storm = 0;
        final List<int[]> chapels = new ArrayList<>();
        final List<Bell> bells = new ArrayList<>();
        final List<Walker> walkers = new ArrayList<>();
        Tree rides;
        Tree pays;
        Tree keeps;

        boolean isChapel(int c, int r) {
            return chapels.stream().anyMatch(x -> x[0] == c && x[1] == r);
        }

        boolean named(String name) {
            return bells.stream().anyMatch(b -> b.name.equals(name)) || walkers.stream().anyMatch(w -> w.name.equals(name));
        }
    }

    // ---- reading

    static final class Text {
        final String text;
        int at = 0;

        Text(byte[] bytes) {
            StringBuilder s = new StringBuilder();
            for (byte b : bytes) {
                s.append((char) (b & 255));
            }
            text = s.toString();
        }

        char look() {
            return at < text.length() ? text.charAt(at) : (char) 0xffff;
        }

        static boolean letter(char c) {
            return c >= 'a' && c <= 'z';
        }

        static boolean digit(char c) {
            return c >= '0' && c <= '9';
        }

        void blanks() {
            while (look() == ' ' || look() == '\n') {
                at++;
            }
        }

        /** The word that stands next, without taking it; "" if none does. */
        String peek() {
            blanks();
            if (at > 0 && (letter(text.charAt(at - 1)) || digit(text.charAt(at - 1)))) {
                return "";
            }
            int k = at;
            while (k < text.length() && letter(text.charAt(k))) {
                k++;
            }
            return text.substring(at, k);
        }

        boolean sign(char c) {
            blanks();
            return look() == c;
        }

        Fault wrong() {
            blanks();
            return new Fault(1, at);
        }

        void word(String w) {
            if (!peek().equals(w)) {
                throw wrong();
            }
            at += w.length();
        }

        void take(char c) {
            if (!sign(c)) {
                throw wrong();
            }
            at++;
        }

        int number(int least, int most) {
            blanks();
            if (!digit(look()) || at > 0 && (letter(text.charAt(at - 1)) || digit(text.charAt(at - 1)))) {
                throw wrong();
            }
            int from = at;
            int v = 0;
            while (digit(look())) {
                if (at - from == 4) {
                    throw new Fault(1, at);
                }
                v = v * 10 + look() - '0';
                at++;
            }
            if (v < least || v > most) {
                throw new Fault(2, from);
            }
            return v;
        }

        String name(Country c) {
            String w = peek();
            if (w.isEmpty() || OWN.contains(w)) {
                throw wrong();
            }
            if (w.length() > 6) {
                throw new Fault(1, at + 6);
            }
            if (c.named(w)) {
                throw new Fault(3, at);
            }
            at += w.length();
            return w;
        }
    }

    static int bound(long x) {
        return (int) (x > 1000000 ? 1000000 : x < -1000000 ? -1000000 : x);
    }

    static final class Grammar {
        final Text t;
        final Set<String> parts;
        int open = 0;

        Grammar(Text t, Set<String> parts) {
            this.t = t;
            this.parts = parts;
        }

        void open(int length) {
            t.blanks();
            if (open == 6) {
                throw new Fault(4, t.at);
            }
            open++;
            t.at += length;
        }

        Tree test() {
            Tree a = both();
            while (t.peek().equals("or")) {
                t.at += 2;
                Tree l = a;
                Tree r = both();
                a = (v, n) -> l.of(v, n) != 0 || r.of(v, n) != 0 ? 1 : 0;
            }
            return a;
        }

        Tree both() {
            Tree a = fact();
            while (t.peek().equals("and")) {
                t.at += 3;
                Tree l = a;
                Tree r = fact();
                a = (v, n) -> l.of(v, n) != 0 && r.of(v, n) != 0 ? 1 : 0;
            }
            return a;
        }

        Tree fact() {
            if (t.peek().equals("not")) {
                open(3);
                Tree a = fact();
                open--;
                return (v, n) -> a.of(v, n) == 0 ? 1 : 0;
            }
            if (t.sign('[')) {
                open(1);
                Tree a = test();
                t.take(']');
                open--;
                return a;
            }
            if (t.peek().equals("all")) {
                t.at += 3;
                return (v, n) -> 1;
            }
            Tree l = sum();
            t.blanks();
            char c = t.look();
            if (c != '<' && c != '>' && c != '=') {
                throw t.wrong();
            }
            t.at++;
            Tree r = sum();
            return (v, n) -> {
                int a = l.of(v, n);
                int b = r.of(v, n);
                return (c == '<' ? a < b : c == '>' ? a > b : a == b) ? 1 : 0;
            };
        }

        Tree sum() {
            Tree a = product();
            while (t.sign('+') || t.sign('-')) {
                boolean plus = t.sign('+');
                t.at++;
                Tree l = a;
                Tree r = product();
                a = (v, n) -> bound(plus ? l.of(v, n) + r.of(v, n) : l.of(v, n) - r.of(v, n));
            }
            return a;
        }

        Tree product() {
            Tree a = part();
            while (t.sign('*') || t.sign('/')) {
                boolean times = t.sign('*');
                t.at++;
                Tree l = a;
                Tree r = part();
                a = (v, n) -> {
                    int x = l.of(v, n);
                    int y = r.of(v, n);
                    return times ? bound((long) x * y) : y == 0 ? 0 : (int) Math.floor((double) x / y);
                };
            }
            return a;
        }

        Tree part() {
            t.blanks();
            if (Text.digit(t.look())) {
                int k = t.number(0, 9999);
                return (v, n) -> k;
            }
            if (t.sign('(')) {
                open(1);
                Tree a = sum();
                t.take(')');
                open--;
                return a;
            }
            String w = t.peek();
            if (w.equals("min") || w.equals("max")) {
                t.at += 3;
                if (!t.sign('(')) {
                    throw t.wrong();
                }
                open(1);
                Tree l = sum();
                t.take(',');
                Tree r = sum();
                t.take(')');
                open--;
                return w.equals("min") ? (v, n) -> Math.min(l.of(v, n), r.of(v, n)) : (v, n) -> Math.max(l.of(v, n), r.of(v, n));
            }
            if (!parts.contains(w)) {
                throw t.wrong();
            }
            if (w.equals("near")) {
                open(4);
                Tree a = part();
                open--;
                return (v, n) -> {
                    int h = a.of(v, n);
                    return h < 0 || h > 11 ? 0 : n[h];
                };
            }
            t.at += w.length();
            return (v, n) -> v.get(w);
        }
    }

    static final Set<String> RIDES = Set.of("hour", "night", "column", "row");
    static final Set<String> MEETING = Set.of("hour", "night", "manner", "met", "purse");
    static final Set<String> ASKED = Set.of("number", "column", "row", "manner", "met", "purse", "gone", "hour", "night", "near");

    static Country country(byte[] bytes) {
        Text t = new Text(bytes);
        Country c = new Country();
        t.word("land");
        c.columns = t.number(2, 7);
        t.word("by");
        c.rows = t.number(2, 7);
        t.word("hunt");
        c.column = t.number(0, c.columns - 1);
        c.row = t.number(0, c.rows - 1);
        t.take(';');
        c.statements = 1;
        for (t.blanks(); t.at < t.text.length(); t.blanks()) {
            if (c.statements == 80) {
                throw new Fault(5, t.at);
            }
            statement(t, c);
            t.take(';');
            c.statements++;
        }
        return c;
    }

    static void limit(Text t, boolean full) {
        if (full) {
            throw new Fault(5, t.at);
        }
    }

    static void statement(Text t, Country c) {
        String w = t.peek();
        switch (w) {
            case "chapel" -> {
                limit(t, c.chapels.size() == 10);
                t.word(w);
                int column = t.number(0, c.columns - 1);
                t.blanks();
                int place = t.at;
                int row = t.number(0, c.rows - 1);
                if (column == c.column && row == c.row || c.isChapel(column, row)) {
                    throw new Fault(2, place);
                }
                c.chapels.add(new int[] {column, row});
            }
            case "bell" -> {
                limit(t, c.bells.size() == 5);
                t.word(w);
                String name = t.name(c);
                t.word("at");
                int column = t.number(0, c.columns - 1);
                int row = t.number(0, c.rows - 1);
                t.word("rope");
                c.bells.add(new Bell(name, column, row, t.number(0, 99)));
            }
            case "walker" -> {
                limit(t, c.walkers.size() == 6);
                t.word(w);
                String name = t.name(c);
                t.word("from");
                int a = t.number(0, c.columns - 1);
                int b = t.number(0, c.rows - 1);
                t.word("to");
                int d = t.number(0, c.columns - 1);
                int e = t.number(0, c.rows - 1);
                t.word("does");
                c.walkers.add(new Walker(name, a, b, d, e, t.number(0, 3)));
            }
            case "rides" -> {
                limit(t, c.rides != null);
                t.word(w);
                c.rides = new Grammar(t, RIDES).sum();
            }
            case "pays" -> {
                limit(t, c.pays != null);
                t.word(w);
                c.pays = new Grammar(t, MEETING).sum();
            }
            case "keeps" -> {
                limit(t, c.keeps != null);
                t.word(w);
                c.keeps = new Grammar(t, MEETING).test();
            }
            case "year" -> {
                t.word(w);
                c.year = t.number(1, 99);
            }
            case "harm" -> {
                t.word(w);
                c.harm = t.number(0, 999);
            }
            case "storm" -> {
                t.word(w);
                c.storm = t.number(0, 100);
            }
            default -> throw t.wrong();
        }
    }

    // ---- what changes

    static final class Now {
        int night = 0;
        boolean[] rung;
        int[] manner;
        int[] met;
        int[] purse;
        int[] gone;
        List<int[]> told = new ArrayList<>();

        static Now first(Country c) {
            Now s = new Now();
            int n = c.walkers.size();
            s.rung = new boolean[c.bells.size()];
            s.manner = c.walkers.stream().mapToInt(Walker::manner).toArray();
            s.met = new int[n];
            s.purse = new int[n];
            s.gone = new int[n];
            return s;
        }

        Now copy() {
            Now s = new Now();
            s.night = night;
            s.rung = rung.clone();
            s.manner = manner.clone();
            s.met = met.clone();
            s.purse = purse.clone();
            s.gone = gone.clone();
            s.told = new ArrayList<>(told);
            return s;
        }

        int bits() {
            int b = 0;
            for (int k = 0; k < rung.length; k++) {
                b += rung[k] ? 1 << k : 0;
            }
            return b;
        }
    }

    private byte[] tape = new byte[0];
    private Country c = null;
    private Now s = Now.first(new Country());
    private final List<Now> past = new ArrayList<>();
    private List<int[]> seen = new ArrayList<>();
    private int[] image = new int[0];
    private long seed = 1;
    private int faultKind = 0;
    private int faultPlace = NONE;
    private final int[] refused = new int[6];

    private int no(int k) {
        refused[k]++;
        return NONE;
    }

    private boolean nay(int k) {
        refused[k]++;
        return false;
    }

    int feed(int... words) {
        if (tape.length + 20 > 1600) {
            return no(0);
        }
        int n = tape.length;
        tape = Arrays.copyOf(tape, n + 20);
        for (int k = 0; k < 20; k++) {
            tape[n + k] = (byte) (words[k / 4] >>> 24 - 8 * (k % 4));
        }
        return tape.length;
    }

    boolean end(int n) {
        if (n < 0 || n > tape.length) {
            return nay(0);
        }
        tape = Arrays.copyOf(tape, n);
        return true;
    }

    private byte[] takeTape() {
        byte[] t = tape;
        tape = new byte[0];
        return t;
    }

    int land() {
        try {
            c = country(takeTape());
        } catch (Fault f) {
            faultKind = f.kind;
            faultPlace = f.place;
            return no(1);
        }
        faultKind = 0;
        faultPlace = NONE;
        s = Now.first(c);
        past.clear();
        seen = new ArrayList<>();
        return c.statements;
    }

    int fault(int what) {
        return what == 0 ? faultKind : what == 1 ? faultPlace : NONE;
    }

    int has(int what) {
        return switch (what) {
            case 0 -> c == null ? 0 : c.columns;
            case 1 -> c == null ? 0 : c.rows;
            case 2 -> c == null ? 0 : c.chapels.size();
            case 3 -> s.rung.length;
            case 4 -> s.manner.length;
            case 5 -> s.night;
            case 6 -> Integer.bitCount(s.bits());
            case 7 -> (int) Arrays.stream(s.gone).filter(x -> x > 0).count();
            case 8 -> Arrays.stream(s.purse).sum();
            case 9 -> s.told.size();
            case 10 -> seen.size();
            case 11 -> past.size();
            default -> NONE;
        };
    }

    private boolean bellThere(int b) {
        return b >= 0 && b < s.rung.length;
    }

    private boolean walkerThere(int w) {
        return w >= 0 && w < s.manner.length;
    }

    int letter(int kind, int which, int k) {
        String name;
        if (kind == 0 && bellThere(which)) {
            name = c.bells.get(which).name;
        } else if (kind == 1 && walkerThere(which)) {
            name = c.walkers.get(which).name;
        } else {
            return NONE;
        }
        return k < 0 || k > 5 ? NONE : k < name.length() ? name.charAt(k) - 'a' + 1 : 0;
    }

    // ---- the ride

    private static int far(int a, int b, int x, int y) {
        return Math.max(Math.abs(a - x), Math.abs(b - y));
    }

    private boolean loud(boolean[] rung, int x, int y) {
        for (int k = 0; k < rung.length; k++) {
            if (rung[k] && far(c.bells.get(k).column, c.bells.get(k).row, x, y) <= 1) {
                return true;
            }
        }
        return false;
    }

    /** Where the HUNT is in each HOUR, as {column, row}; more is one CHAPEL more, or null. */
    private int[][] ride(boolean[] rung, int night, int[] begin, int[] more) {
        int[][] p = new int[12][];
        p[0] = begin;
        for (int h = 0; h < 11; h++) {
            int x = p[h][0];
            int y = p[h][1];
            p[h + 1] = p[h];
            int sum = c.rides == null ? 3 : c.rides.of(Map.of("hour", h, "night", night, "column", x, "row", y), null);
            int way = ((sum % 9) + 9) % 9;
            for (int turns = 0; way != 0 && turns < 8; turns++) {
                int u = x + WAY[way][0];
                int v = y + WAY[way][1];
                boolean can = u >= 0 && v >= 0 && u < c.columns && v < c.rows && !c.isChapel(u, v) && !loud(rung, u, v)
                    && !(more != null && more[0] == u && more[1] == v);
                if (can) {
                    p[h + 1] = new int[] {u, v};
                    break;
                }
                way = way == 8 ? 1 : way + 1;
            }
        }
        return p;
    }

    private int[] home() {
        return new int[] {c.column, c.row};
    }

    private int[][] tonight() {
        return ride(s.rung, s.night, home(), null);
    }

    private int meeting(Now now, int w, int[][] p) {
        if (now.gone[w] > 0 || now.manner[w] == 0) {
            return NONE;
        }
        Walker a = c.walkers.get(w);
        int x = a.column;
        int y = a.row;
        for (int h = 0; h < 12; h++) {
            if (p[h][0] == x && p[h][1] == y) {
                return h;
            }
            x += Integer.signum(a.toColumn - x);
            y += Integer.signum(a.toRow - y);
        }
        return NONE;
    }

    private int loss(int b, boolean[] rung) {
        int[][] p = ride(rung, s.night, home(), null);
        Bell bell = c.bells.get(b);
        boolean near = Arrays.stream(p).anyMatch(q -> far(q[0], q[1], bell.column, bell.row) <= 1);
        return (near ? c.harm : 0) + (rung[b] ? bell.rope : 0);
    }

    int cell(int column, int row, int what) {
        if (c == null || column < 0 || row < 0 || column >= c.columns || row >= c.rows) {
            return NONE;
        }
        if (what == 0) {
            return c.isChapel(column, row) ? 1 : 0;
        }
        if (what == 1) {
            return loud(s.rung, column, row) ? 1 : 0;
        }
        if (what == 2) {
            int[][] p = tonight();
            for (int h = 0; h < 12; h++) {
                if (p[h][0] == column && p[h][1] == row) {
                    return h;
                }
            }
        }
        return NONE;
    }

    int bell(int b, int what) {
        if (!bellThere(b)) {
            return NONE;
        }
        Bell x = c.bells.get(b);
        return switch (what) {
            case 0 -> x.column;
            case 1 -> x.row;
            case 2 -> x.rope;
            case 3 -> s.rung[b] ? 1 : 0;
            case 4 -> loss(b, s.rung);
            default -> NONE;
        };
    }

    int walker(int w, int what) {
        if (!walkerThere(w)) {
            return NONE;
        }
        Walker x = c.walkers.get(w);
        return switch (what) {
            case 0 -> x.column;
            case 1 -> x.row;
            case 2 -> x.toColumn;
            case 3 -> x.toRow;
            case 4 -> s.manner[w];
            case 5 -> s.met[w];
            case 6 -> s.purse[w];
            case 7 -> s.gone[w];
            default -> NONE;
        };
    }

    int told(int k, int what) {
        return k < 0 || k >= s.told.size() || what < 0 || what > 3 ? NONE : s.told.get(k)[what];
    }

    int hunt(int hour, int what) {
        if (c == null || hour < 0 || hour > 11 || what < 0 || what > 1) {
            return NONE;
        }
        return tonight()[hour][what];
    }

    int meets(int w) {
        return walkerThere(w) ? meeting(s, w, tonight()) : NONE;
    }

    int safe(int w) {
        if (!walkerThere(w)) {
            return NONE;
        }
        Walker a = c.walkers.get(w);
        int[][] p = tonight();
        boolean[][] in = new boolean[c.columns][c.rows];
        in[a.column][a.row] = true;
        for (int h = 0; h < 12; h++) {
            in[p[h][0]][p[h][1]] = false;
            if (in[a.toColumn][a.toRow]) {
                return h;
            }
            if (h == 11) {
                break;
            }
            boolean[][] next = new boolean[c.columns][c.rows];
            for (int x = 0; x < c.columns; x++) {
                for (int y = 0; y < c.rows; y++) {
                    for (int u = 0; u < c.columns; u++) {
                        for (int v = 0; v < c.rows; v++) {
                            boolean swap = x == p[h + 1][0] && y == p[h + 1][1] && u == p[h][0] && v == p[h][1];
                            if (in[x][y] && far(x, y, u, v) <= 1 && !swap) {
                                next[u][v] = true;
                            }
                        }
                    }
                }
            }
            in = next;
        }
        return NONE;
    }

    private boolean[] setOf(int bits) {
        boolean[] r = new boolean[s.rung.length];
        for (int k = 0; k < r.length; k++) {
            r[k] = (bits >> k & 1) == 1;
        }
        return r;
    }

    private interface Holds {
        boolean of(int bits);
    }

    private int fewest(Holds holds) {
        for (int count = 0; count <= s.rung.length; count++) {
            for (int bits = 0; bits < 1 << s.rung.length; bits++) {
                if (Integer.bitCount(bits) == count && holds.of(bits)) {
                    return bits;
                }
            }
        }
        return NONE;
    }

    int peal() {
        return c == null ? NONE : fewest(bits -> {
            int[][] p = ride(setOf(bits), s.night, home(), null);
            for (int w = 0; w < s.manner.length; w++) {
                if (meeting(s, w, p) != NONE) {
                    return false;
                }
            }
            return true;
        });
    }

    int rest() {
        return c == null ? NONE : fewest(bits -> {
            for (int b = 0; b < s.rung.length; b++) {
                if (loss(b, setOf(bits ^ 1 << b)) < loss(b, setOf(bits))) {
                    return false;
                }
            }
            return true;
        });
    }

    // ---- nights

    /** One NIGHT of now; the WALKERS who met it, with 16 more for one who was KEPT. */
    private List<Integer> pass(Now now, boolean storm, int[] more) {
        List<Integer> list = new ArrayList<>();
        int[][] p = ride(now.rung, now.night, home(), more);
        for (int w = 0; w < now.manner.length; w++) {
            if (now.gone[w] > 0) {
                now.gone[w]--;
                continue;
            }
            int h = storm ? NONE : meeting(now, w, p);
            if (h == NONE) {
                continue;
            }
            Map<String, Integer> v = Map.of("hour", h, "night", now.night, "manner", now.manner[w], "met", now.met[w],
                "purse", now.purse[w]);
            int pay = c.pays == null ? 0 : c.pays.of(v, null);
            boolean kept = now.manner[w] == 1 || c.keeps != null && c.keeps.of(v, null) != 0;
            now.purse[w] = Math.min(9999, Math.max(0, now.purse[w] + pay));
            now.met[w] = Math.min(9999, now.met[w] + 1);
            now.gone[w] = kept ? c.year : 0;
            now.told.add(new int[] {now.night, h, w, kept ? 1 : 0});
            if (now.told.size() > 40) {
                now.told.remove(0);
            }
            list.add(kept ? w + 16 : w);
        }
        now.night++;
        return list;
    }

    private boolean canPass(int n, int least, int most) {
        return c != null && n >= least && n <= most && s.night + n <= 999;
    }

    int later(int n, int what) {
        if (!canPass(n, 0, 60)) {
            return NONE;
        }
        Now now = s.copy();
        List<Integer> all = new ArrayList<>();
        for (int k = 0; k < n; k++) {
            all.addAll(pass(now, false, null));
        }
        return switch (what) {
            case 0 -> all.size();
            case 1 -> (int) Arrays.stream(now.gone).filter(x -> x > 0).count();
            case 2 -> Arrays.stream(now.purse).sum();
            case 3 -> (int) all.stream().filter(x -> x >= 16).count();
            default -> NONE;
        };
    }

    private int meetingsIn(int n, int[] more) {
        Now now = s.copy();
        int count = 0;
        for (int k = 0; k < n; k++) {
            count += pass(now, false, more).size();
        }
        return count;
    }

    int chapel(int n, int what) {
        if (!canPass(n, 1, 20)) {
            return NONE;
        }
        int without = meetingsIn(n, null);
        int[] best = null;
        int least = without;
        for (int y = 0; y < c.rows; y++) {
            for (int x = 0; x < c.columns; x++) {
                if (!c.isChapel(x, y) && !(x == c.column && y == c.row)) {
                    int m = meetingsIn(n, new int[] {x, y});
                    if (m < least) {
                        least = m;
                        best = new int[] {x, y, without - m};
                    }
                }
            }
        }
        return best == null || what < 0 || what > 2 ? NONE : best[what];
    }

    int first(int w) {
        if (!walkerThere(w)) {
            return NONE;
        }
        Now now = s.copy();
        for (int n = 1; n <= 60 && now.night < 999; n++) {
            List<Integer> list = pass(now, false, null);
            if (list.contains(w) || list.contains(w + 16)) {
                return n;
            }
        }
        return NONE;
    }

    // ---- who saw it

    int see() {
        byte[] t = takeTape();
        if (c == null || t.length == 0 || t.length % 3 != 0 || t.length > 36) {
            return no(1);
        }
        List<int[]> rows = new ArrayList<>();
        for (int k = 0; k < t.length; k += 3) {
            int[] row = {t[k] & 255, t[k + 1] & 255, t[k + 2] & 255};
            if (row[0] > 11 || row[1] >= c.columns || row[2] >= c.rows) {
                return no(1);
            }
            rows.add(row);
        }
        seen = rows;
        return rows.size();
    }

    private List<int[]> begins() {
        List<int[]> list = new ArrayList<>();
        for (int y = 0; y < c.rows; y++) {
            for (int x = 0; x < c.columns; x++) {
                int[][] p = ride(s.rung, s.night, new int[] {x, y}, null);
                boolean fits = !c.isChapel(x, y);
                for (int[] row : seen) {
                    fits &= p[row[0]][0] == row[1] && p[row[0]][1] == row[2];
                }
                if (fits) {
                    list.add(new int[] {x, y});
                }
            }
        }
        return list;
    }

    int began(int what) {
        if (c == null || what < 0 || what > 2) {
            return NONE;
        }
        List<int[]> list = begins();
        if (what == 0) {
            return list.size();
        }
        if (list.isEmpty()) {
            return NONE;
        }
        int[] b = list.get(what == 1 ? 0 : list.size() - 1);
        return c.columns * b[1] + b[0];
    }

    int tells(int what) {
        if (c == null || what < 0 || what > 1) {
            return NONE;
        }
        List<int[]> list = begins();
        if (list.isEmpty()) {
            return NONE;
        }
        int bestHour = NONE;
        int least = Integer.MAX_VALUE;
        for (int h = 0; h < 12; h++) {
            Map<Integer, Integer> groups = new HashMap<>();
            for (int[] b : list) {
                int[] q = ride(s.rung, s.night, b, null)[h];
                groups.merge(q[1] * 10 + q[0], 1, Integer::sum);
            }
            int most = groups.values().stream().mapToInt(x -> x).max().getAsInt();
            if (most < least) {
                least = most;
                bestHour = h;
            }
        }
        return what == 0 ? bestHour : least;
    }

    // ---- acts

    private void act() {
        past.add(s.copy());
        if (past.size() > 20) {
            past.remove(0);
        }
    }

    boolean ring(int b, int on) {
        if (!bellThere(b) || on != 0 && on != 1 || s.rung[b] == (on == 1)) {
            return nay(2);
        }
        act();
        s.rung[b] = on == 1;
        return true;
    }

    boolean does(int w, int manner) {
        if (!walkerThere(w) || manner < 0 || manner > 3 || s.manner[w] == manner) {
            return nay(2);
        }
        act();
        s.manner[w] = manner;
        return true;
    }

    int nights(int n) {
        if (!canPass(n, 1, 100)) {
            return no(3);
        }
        act();
        int count = 0;
        for (int k = 0; k < n; k++) {
            count += pass(s, false, null).size();
        }
        return count;
    }

    int chance(int n) {
        if (!canPass(n, 1, 100)) {
            return no(3);
        }
        act();
        int storms = 0;
        for (int k = 0; k < n; k++) {
            seed = (1103515245L * seed + 12345L) % (1L << 31);
            boolean storm = seed / 64 % 100 < c.storm;
            storms += storm ? 1 : 0;
            pass(s, storm, null);
        }
        return storms;
    }

    boolean undo() {
        if (past.isEmpty()) {
            return nay(4);
        }
        s = past.remove(past.size() - 1);
        return true;
    }

    boolean seed(int x) {
        if (x < 0) {
            return nay(5);
        }
        seed = x;
        return true;
    }

    // ---- questions

    long ask() {
        byte[] bytes = takeTape();
        if (c == null) {
            return NOTHING;
        }
        String word;
        Tree tree;
        try {
            Text t = new Text(bytes);
            word = t.peek();
            Grammar g = new Grammar(t, ASKED);
            if (Set.of("first", "last", "often").contains(word)) {
                t.word(word);
                tree = g.test();
            } else if (Set.of("total", "most", "least").contains(word)) {
                t.word(word);
                tree = g.sum();
            } else {
                throw t.wrong();
            }
            t.blanks();
            if (t.at < t.text.length()) {
                throw t.wrong();
            }
        } catch (Fault f) {
            faultKind = f.kind;
            faultPlace = f.place;
            return NOTHING;
        }
        faultKind = 0;
        faultPlace = NONE;
        return answer(word, tree);
    }

    private long answer(String word, Tree tree) {
        int[][] p = tonight();
        List<Integer> worth = new ArrayList<>();
        for (int w = 0; w < s.manner.length; w++) {
            Walker a = c.walkers.get(w);
            int h = meeting(s, w, p);
            Map<String, Integer> v = Map.of("hour", h == NONE ? 12 : h, "night", s.night, "column", a.column, "row", a.row,
                "manner", s.manner[w], "met", s.met[w], "purse", s.purse[w], "gone", s.gone[w], "number", w);
            int[] near = new int[12];
            for (int k = 0; k < 12; k++) {
                near[k] = far(a.column, a.row, p[k][0], p[k][1]);
            }
            worth.add(tree.of(v, near));
        }
        return switch (word) {
            case "first" -> worth.indexOf(1);
            case "last" -> worth.lastIndexOf(1);
            case "often", "total" -> worth.stream().mapToLong(x -> x).sum();
            case "most" -> worth.stream().mapToLong(x -> x).max().orElse(0);
            default -> worth.stream().mapToLong(x -> x).min().orElse(0);
        };
    }

    // ---- images, refusals

    int image() {
        List<Integer> b = new ArrayList<>(List.of(s.night / 256, s.night % 256, s.bits()));
        for (int w = 0; w < s.manner.length; w++) {
            b.addAll(List.of(s.manner[w], s.met[w] / 256, s.met[w] % 256, s.purse[w] / 256, s.purse[w] % 256, s.gone[w]));
        }
        int check = 79;
        for (int x : b) {
            check = (3 * check + x) % 251;
        }
        b.add(check);
        image = b.stream().mapToInt(x -> x).toArray();
        return image.length;
    }

    int octet(int k) {
        return k < 0 || k >= image.length ? NONE : image[k];
    }

    boolean on() {
        byte[] t = takeTape();
        if (c == null || t.length != 4 + 6 * s.manner.length) {
            return nay(5);
        }
        int[] b = new int[t.length];
        int check = 79;
        for (int k = 0; k < t.length; k++) {
            b[k] = t[k] & 255;
            if (k < t.length - 1) {
                check = (3 * check + b[k]) % 251;
            }
        }
        Now now = Now.first(c);
        now.night = b[0] * 256 + b[1];
        boolean good = b[t.length - 1] == check && now.night <= 999 && b[2] < 1 << s.rung.length;
        now.rung = setOf(b[2]);
        for (int w = 0; w < s.manner.length; w++) {
            int k = 3 + 6 * w;
            now.manner[w] = b[k];
            now.met[w] = b[k + 1] * 256 + b[k + 2];
            now.purse[w] = b[k + 3] * 256 + b[k + 4];
            now.gone[w] = b[k + 5];
            good &= now.manner[w] <= 3 && now.met[w] <= 9999 && now.purse[w] <= 9999 && now.gone[w] <= 99;
        }
        if (!good) {
            return nay(5);
        }
        s = now;
        past.clear();
        return true;
    }

    int status(int what) {
        return what < 0 || what > 5 ? NONE : refused[what];
    }
}
