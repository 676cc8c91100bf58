/**
 * The boundary cases of Terms I and of the QUESTIONS of Terms IV.
 * Each method stands for one sentence, which it names; in a text with a FAULT a ^ marks the place that is due.
 */
public final class BoundsOfTextTest {
    private static final int NONE = -1;
    private static final String TWO = "land 2 by 2 hunt 0 0;";
    private static final String THREE = "land 3 by 3 hunt 0 0;";
    private static final String SEVEN = "land 7 by 7 hunt 6 6;";
    private static final String ONE_WALKER = TWO + "walker w from 1 1 to 1 1 does 0;";
    private static final String[] OWN_WORDS = {"land", "by", "hunt", "chapel", "bell", "at", "rope", "walker", "from", "to", "does", "rides",
        "pays", "keeps", "year", "harm", "storm", "hour", "night", "column", "row", "manner", "met", "purse", "number", "gone", "near", "or",
        "and", "not", "all", "min", "max"};
    private static final String[] ASKING_WORDS = {"first", "last", "often", "total", "most", "least"};

    public static void main(String[] args) {
        emptyText();
        statements();
        firstByteAlone();
        columns();
        rows();
        begin();
        landFirstAndAlone();
        chapelIsACell();
        chapelNotWhereItBegins();
        chapelNotToldAlready();
        tenChapels();
        bellIsACell();
        rope();
        fiveBells();
        walkerHasTwoCells();
        manners();
        sixWalkers();
        oneEach();
        year();
        harm();
        storm();
        lastOneCounts();
        numbersOfFourDigits();
        nameOfSixLetters();
        noOwnWord();
        unlikeNames();
        blanks();
        sideBySide();
        wholeWords();
        endsTooSoon();
        firstAlongTheText();
        partsOfRides();
        partsOfPaysAndKeeps();
        openOfOneSort();
        openOfAllSorts();
        openUntilItEnds();
        divisions();
        millions();
        millionsWhereTheyAreUsed();
        comparisons();
        bothAndEither();
        longestTexts();
        deepestSums();
        questionWords();
        questionParts();
        behindTheQuestion();
        nearOpen();
        nearHours();
        valuesAtTheMost();
        withoutWalkers();
        Hand.end();
    }

    private static void good(int statements, String text) {
        Hand.good(statements, text);
    }

    private static void faulty(int kind, String marked) {
        Hand.faulty(kind, marked);
    }

    private static void asksWrong(int kind, String marked) {
        Hand.asksWrong(kind, marked);
    }

    private static void due(String call, long got, long want) {
        Hand.due(call, got, want);
    }

    // ---- statements

    private static void emptyText() {
        Hand.at("one without a STATEMENT has FAULT 1 at its length");
        faulty(1, "^");
        faulty(1, " ^");
        faulty(1, "\n^");
        faulty(1, " \n  \n ^");
        faulty(1, " ".repeat(1600) + "^");
    }

    private static void statements() {
        Hand.at("STATEMENTS, 80 at most; an 81st one (whatever stands there), at its first byte");
        good(1, TWO);
        good(2, TWO + "year 1;");
        good(79, TWO + "year 1;".repeat(78));
        good(80, TWO + "year 1;".repeat(79));
        good(80, TWO + "year 1;".repeat(79) + " \n ");
        faulty(1, TWO + "year 1;".repeat(78) + "year 1^");
        faulty(2, TWO + "year 1;".repeat(78) + "year ^0;");
        String full = TWO + "year 1;".repeat(79);
        for (String stands : new String[] {"year 1;", ";", "?", "x", "7", "land 2 by 2 hunt 0 0;", "year", "(", "\t", "\u00ff", "\u0000", "bell land"}) {
            faulty(5, full + "^" + stands);
            faulty(5, full + " \n^" + stands);
        }
        faulty(5, full + "^" + "year 1;".repeat(11));
    }

    private static void firstByteAlone() {
        Hand.at("1 the first byte with which no such text goes on");
        for (int b = 0; b < 256; b++) {
            boolean blank = b == 10 || b == 32;
            if (!blank && b != '^') {
                faulty(1, "^" + (char) b);
                faulty(1, " ^" + (char) b + "land 2 by 2 hunt 0 0;");
            }
        }
    }

    private static void columns() {
        Hand.at("2 .. 7 columns");
        for (int n = 2; n <= 7; n++) {
            due(n + " columns", Hand.over("land " + n + " by 2 hunt 0 0;").has(0), n);
        }
        for (int n : new int[] {0, 1, 8, 9, 10, 12, 27, 70, 100, 1000, 9999}) {
            faulty(2, "land ^" + n + " by 2 hunt 0 0;");
            faulty(2, "land ^" + n);
        }
    }

    private static void rows() {
        Hand.at("2 .. 7 rows");
        for (int n = 2; n <= 7; n++) {
            due(n + " rows", Hand.over("land 2 by " + n + " hunt 0 0;").has(1), n);
        }
        for (int n : new int[] {0, 1, 8, 9, 10, 12, 27, 70, 100, 1000, 9999}) {
            faulty(2, "land 2 by ^" + n + " hunt 0 0;");
            faulty(2, "land 2 by ^" + n);
        }
    }

    private static void begin() {
        Hand.at("a column, a row from 0 on, where it begins");
        for (int columns = 2; columns <= 7; columns++) {
            int rows = 9 - columns;
            String head = "land " + columns + " by " + rows + " hunt ";
            WildHunt x = Hand.over(head + (columns - 1) + " " + (rows - 1) + ";");
            due("last column", x.hunt(0, 0), columns - 1);
            due("last row", x.hunt(0, 1), rows - 1);
            WildHunt y = Hand.over(head + "0 " + (rows - 1) + ";");
            due("first column", y.hunt(0, 0), 0);
            due("last row", y.hunt(0, 1), rows - 1);
            WildHunt z = Hand.over(head + (columns - 1) + " 0;");
            due("last column", z.hunt(0, 0), columns - 1);
            due("first row", z.hunt(0, 1), 0);
            faulty(2, head + "^" + columns + " 0;");
            faulty(2, head + "^" + columns + " " + rows + ";");
            faulty(2, head + "0 ^" + rows + ";");
            faulty(2, head + (columns - 1) + " ^" + rows + ";");
            faulty(2, head + "0 ^9999");
        }
    }

    private static void landFirstAndAlone() {
        Hand.at("the first STATEMENT, and it alone");
        String[] others = {"chapel 1 1;", "bell a at 1 1 rope 1;", "walker a from 0 0 to 0 0 does 0;", "rides 1;", "pays 1;", "keeps all;",
            "year 1;", "harm 1;", "storm 1;"};
        for (String other : others) {
            faulty(1, "^" + other);
            faulty(1, "^" + other + THREE);
            good(2, THREE + other);
            faulty(1, THREE + other + "^" + THREE);
        }
        faulty(1, THREE + "^" + THREE);
        faulty(1, THREE + " ^land");
    }

    // ---- chapels, bells, walkers

    private static void chapelIsACell() {
        Hand.at("chapel N N (a CELL); of a CELL that can't be one, but could by its column, the row");
        for (int columns = 2; columns <= 7; columns++) {
            int rows = 9 - columns;
            String head = "land " + columns + " by " + rows + " hunt 0 0;";
            WildHunt x = Hand.over(head + "chapel " + (columns - 1) + " " + (rows - 1) + ";");
            due("the last CELL", x.cell(columns - 1, rows - 1, 0), 1);
            faulty(2, head + "chapel ^" + columns + " 0;");
            faulty(2, head + "chapel ^" + columns + " " + rows + ";");
            faulty(2, head + "chapel 1 ^" + rows + ";");
            faulty(2, head + "chapel " + (columns - 1) + " ^" + rows + ";");
            faulty(2, head + "chapel ^9999 0;");
            faulty(2, head + "chapel 0 ^9999;");
        }
    }

    private static void chapelNotWhereItBegins() {
        Hand.at("chapel N N (not where it begins)");
        faulty(2, "land 4 by 3 hunt 3 2;chapel 3 ^2;");
        faulty(2, "land 4 by 3 hunt 0 0;chapel 0 ^0;");
        faulty(2, "land 4 by 3 hunt 2 1;chapel 2 ^1;");
        faulty(2, "land 4 by 3 hunt 2 1;chapel 2  \n ^0001;");
        good(3, "land 4 by 3 hunt 2 1;chapel 1 2;chapel 2 2;");
        good(3, "land 4 by 3 hunt 2 1;chapel 2 0;chapel 3 1;");
    }

    private static void chapelNotToldAlready() {
        Hand.at("chapel N N (not told already)");
        faulty(2, THREE + "chapel 2 2;chapel 2 ^2;");
        faulty(2, THREE + "chapel 2 1;chapel 1 2;chapel 2 ^1;");
        faulty(2, THREE + "chapel 2 1;chapel 1 2;chapel 1 ^2;");
        good(4, THREE + "chapel 2 1;chapel 1 2;chapel 2 2;");
        faulty(2, TWO + "chapel 0 1;chapel 1 0;chapel 1 1;chapel 1 ^0;");
        // The LAND before had that CHAPEL, this one has not.
        WildHunt x = Hand.over(THREE + "chapel 2 2;");
        due("another LAND", Hand.land(x, THREE + "chapel 2 2;"), 2);
        due("another LAND", Hand.land(x, THREE + "chapel 1 1;"), 2);
        due("gone with the LAND before", x.cell(2, 2, 0), 0);
    }

    private static String chapels(int n) {
        StringBuilder s = new StringBuilder();
        for (int k = 0; k < n; k++) {
            s.append("chapel ").append(k % 7).append(' ').append(k / 7).append(';');
        }
        return s.toString();
    }

    private static void tenChapels() {
        Hand.at("10 CHAPELS; 5 one too many of a kind, at its first byte");
        due("none", Hand.over(SEVEN).has(2), 0);
        due("ten", Hand.over(SEVEN + chapels(10)).has(2), 10);
        good(12, SEVEN + chapels(10) + "year 1;");
        faulty(5, SEVEN + chapels(10) + "^chapel 5 5;");
        faulty(5, SEVEN + chapels(10) + "year 1; ^chapel 0 0;");
        faulty(5, SEVEN + chapels(10) + "^chapel 9 9;");
        faulty(5, SEVEN + chapels(10) + "^chapel");
        faulty(1, SEVEN + chapels(10) + "^chapels");
    }

    private static void bellIsACell() {
        Hand.at("bell NAME at N N (a CELL)");
        for (int columns = 2; columns <= 7; columns++) {
            int rows = 9 - columns;
            String head = "land " + columns + " by " + rows + " hunt 0 0;bell b at ";
            WildHunt x = Hand.over(head + (columns - 1) + " " + (rows - 1) + " rope 1;");
            due("last column", x.bell(0, 0), columns - 1);
            due("last row", x.bell(0, 1), rows - 1);
            faulty(2, head + "^" + columns + " 0 rope 1;");
            faulty(2, head + "^" + columns + " " + rows + " rope 1;");
            faulty(2, head + "0 ^" + rows + " rope 1;");
        }
        // Nothing bars a BELL from where the HUNT begins, from a CHAPEL or from another BELL.
        good(5, THREE + "chapel 1 1;bell a at 0 0 rope 1;bell b at 1 1 rope 1;bell c at 1 1 rope 1;");
        good(3, THREE + "bell b at 1 1 rope 1;chapel 1 1;");
    }

    private static void rope() {
        Hand.at("rope N (0 .. 99)");
        for (int n : new int[] {0, 1, 98, 99}) {
            due("rope " + n, Hand.over(TWO + "bell b at 1 1 rope " + n + ";").bell(0, 2), n);
        }
        due("rope 0099", Hand.over(TWO + "bell b at 1 1 rope 0099;").bell(0, 2), 99);
        for (int n : new int[] {100, 101, 127, 128, 256, 999, 9999}) {
            faulty(2, TWO + "bell b at 1 1 rope ^" + n + ";");
        }
        faulty(1, TWO + "bell b at 1 1 rope ^-1;");
    }

    private static String bells(int n) {
        StringBuilder s = new StringBuilder();
        for (int k = 0; k < n; k++) {
            s.append("bell b").append((char) ('a' + k)).append(" at 1 1 rope ").append(k).append(';');
        }
        return s.toString();
    }

    private static void fiveBells() {
        Hand.at("5 BELLS; 5 one too many of a kind, at its first byte");
        WildHunt x = Hand.over(TWO + bells(5));
        due("five", x.has(3), 5);
        due("the fifth", x.bell(4, 2), 4);
        due("no sixth", x.bell(5, 2), NONE);
        faulty(5, TWO + bells(5) + "^bell x at 1 1 rope 1;");
        faulty(5, TWO + bells(5) + "year 1;\n^bell ba at 9 9 rope 999;");
        faulty(5, TWO + bells(5) + "^bell");
        faulty(5, TWO + bells(5) + "^bell bell");
        faulty(1, TWO + bells(5) + "^bells");
        faulty(3, TWO + bells(4) + "bell ^ba at 9 9 rope 1;");
    }

    private static void walkerHasTwoCells() {
        Hand.at("walker NAME from N N to N N (two CELLS)");
        for (int columns = 2; columns <= 7; columns++) {
            int rows = 9 - columns;
            int c = columns - 1;
            int r = rows - 1;
            String head = "land " + columns + " by " + rows + " hunt 0 0;walker w from ";
            WildHunt x = Hand.over(head + c + " " + r + " to 0 0 does 1;");
            due("home column", x.walker(0, 0), c);
            due("home row", x.walker(0, 1), r);
            WildHunt y = Hand.over(head + "0 0 to " + c + " " + r + " does 1;");
            due("goal column", y.walker(0, 2), c);
            due("goal row", y.walker(0, 3), r);
            faulty(2, head + "^" + columns + " 0 to 0 0 does 1;");
            faulty(2, head + "0 ^" + rows + " to 0 0 does 1;");
            faulty(2, head + "0 0 to ^" + columns + " 0 does 1;");
            faulty(2, head + "0 0 to 0 ^" + rows + " does 1;");
            faulty(2, head + "^" + columns + " " + rows + " to " + columns + " " + rows + " does 4;");
        }
        // Nothing bars him from where the HUNT begins, from a CHAPEL, from being at his goal already.
        good(4, THREE + "chapel 1 1;walker v from 0 0 to 1 1 does 1;walker w from 1 1 to 1 1 does 1;");
    }

    private static void manners() {
        Hand.at("does N (a MANNER: 0, 1, 2, 3)");
        for (int n = 0; n <= 3; n++) {
            due("does " + n, Hand.over(TWO + "walker w from 0 0 to 0 0 does " + n + ";").walker(0, 4), n);
        }
        for (int n : new int[] {4, 5, 7, 10, 9999}) {
            faulty(2, TWO + "walker w from 0 0 to 0 0 does ^" + n + ";");
        }
        faulty(1, TWO + "walker w from 0 0 to 0 0 does ^;");
    }

    private static String walkers(int n) {
        StringBuilder s = new StringBuilder();
        for (int k = 0; k < n; k++) {
            s.append("walker w").append((char) ('a' + k)).append(" from 1 1 to 1 ").append(k % 2).append(" does ").append(k % 4).append(';');
        }
        return s.toString();
    }

    private static void sixWalkers() {
        Hand.at("6 WALKERS; 5 one too many of a kind, at its first byte");
        WildHunt x = Hand.over(TWO + walkers(6));
        due("six", x.has(4), 6);
        due("the sixth", x.walker(5, 4), 1);
        due("no seventh", x.walker(6, 4), NONE);
        faulty(5, TWO + walkers(6) + "^walker x from 0 0 to 0 0 does 0;");
        faulty(5, TWO + walkers(6) + "harm 1;\n ^walker wa from 9 9 to 9 9 does 9;");
        faulty(5, TWO + walkers(6) + "^walker");
        faulty(1, TWO + walkers(6) + "^walke");
        faulty(3, TWO + walkers(5) + "walker ^wa");
        // Each kind has its own count.
        good(34, SEVEN + chapels(10) + bells(5) + walkers(6) + "rides 1;pays 1;keeps all;" + "year 1;".repeat(9));
    }

    private static void oneEach() {
        Hand.at("rides SUM, pays SUM, keeps TEST (one each); 5 a second rides, pays, keeps, too");
        good(4, THREE + "rides 1;pays 1;keeps all;");
        good(4, THREE + "keeps all;pays 1;rides 1;");
        String all = THREE + "rides 1;pays 1;keeps all;";
        for (String again : new String[] {"rides 1;", "pays 1;", "keeps all;", "rides", "pays", "keeps", "rides ?", "pays all", "keeps 1"}) {
            faulty(5, all + "^" + again);
        }
        faulty(5, THREE + "rides 0;^rides 0;");
        faulty(5, THREE + "pays 0;^pays 0;");
        faulty(5, THREE + "keeps not all;^keeps all;");
        faulty(1, THREE + "rides ^;rides 1;");
    }

    // ---- year, harm, storm

    /** A WALKER who answers where the HUNT begins: after a NIGHT he is GONE for a year. */
    private static int yearOf(String text) {
        WildHunt x = Hand.over(TWO + "walker w from 0 0 to 0 0 does 1;" + text);
        x.nights(1);
        return x.walker(0, 7);
    }

    private static void year() {
        Hand.at("year N (1 .. 99)");
        due("year 1", yearOf("year 1;"), 1);
        due("year 2", yearOf("year 2;"), 2);
        due("year 98", yearOf("year 98;"), 98);
        due("year 99", yearOf("year 99;"), 99);
        for (int n : new int[] {0, 100, 101, 128, 256, 999, 9999}) {
            faulty(2, TWO + "year ^" + n + ";");
        }
        faulty(2, TWO + "year ^0000;");
        faulty(1, TWO + "year ^-1;");
    }

    private static int harmOf(String text) {
        return Hand.over(TWO + "bell b at 0 0 rope 1;" + text).bell(0, 4);
    }

    private static void harm() {
        Hand.at("harm N (0 .. 999)");
        due("harm 0", harmOf("harm 0;"), 0);
        due("harm 1", harmOf("harm 1;"), 1);
        due("harm 998", harmOf("harm 998;"), 998);
        due("harm 999", harmOf("harm 999;"), 999);
        for (int n : new int[] {1000, 1001, 1024, 9999}) {
            faulty(2, TWO + "harm ^" + n + ";");
        }
        faulty(1, TWO + "harm ^-1;");
    }

    private static int stormsOf(String text) {
        return Hand.over(TWO + text).chance(100);
    }

    private static void storm() {
        Hand.at("storm N (0 .. 100)");
        due("storm 0: never", stormsOf("storm 0;"), 0);
        due("storm 100: always", stormsOf("storm 100;"), 100);
        good(2, TWO + "storm 1;");
        good(2, TWO + "storm 99;");
        for (int n : new int[] {101, 102, 128, 256, 999, 9999}) {
            faulty(2, TWO + "storm ^" + n + ";");
        }
        faulty(1, TWO + "storm ^-1;");
    }

    private static void lastOneCounts() {
        Hand.at("the last one of each counts (12, 20, 0 without)");
        due("year", yearOf("year 99;year 5;"), 5);
        due("year", yearOf("year 5;harm 7;year 99;storm 8;"), 99);
        due("year without", yearOf(""), 12);
        due("year without, others with", yearOf("harm 3;storm 4;"), 12);
        due("harm", harmOf("harm 0;harm 999;"), 999);
        due("harm", harmOf("harm 999;year 7;harm 0;"), 0);
        due("harm without", harmOf(""), 20);
        due("harm without, others with", harmOf("year 3;storm 4;"), 20);
        due("storm", stormsOf("storm 100;storm 0;"), 0);
        due("storm", stormsOf("storm 0;harm 7;storm 100;year 3;"), 100);
        due("storm without", stormsOf(""), 0);
        due("storm without, others with", stormsOf("year 99;harm 999;"), 0);
        // What a LAND before said does not count any more.
        WildHunt x = Hand.over(TWO + "bell b at 0 0 rope 1;harm 5;storm 100;");
        Hand.land(x, TWO + "bell b at 0 0 rope 1;");
        due("harm of a new LAND", x.bell(0, 4), 20);
        due("storm of a new LAND", x.chance(20), 0);
        // A number that can't be is no less one because another one follows.
        faulty(2, TWO + "year ^0;year 1;");
    }

    // ---- numbers, names, blanks

    private static void numbersOfFourDigits() {
        Hand.at("N (1 to 4 digits); where a number is asked, a 5th digit at itself");
        due("four digits", Hand.over("land 0003 by 0002 hunt 0002 0001;").hunt(0, 0), 2);
        good(2, TWO + "rides 0;");
        good(2, TWO + "rides 9999;");
        good(2, TWO + "rides 0000;");
        faulty(1, "land 0000^2 by 2 hunt 0 0;");
        faulty(1, "land 2 by 0000^2 hunt 0 0;");
        faulty(1, "land 2 by 2 hunt 0000^0 0;");
        faulty(1, "land 2 by 2 hunt 0 0000^0;");
        faulty(1, TWO + "chapel 0000^1 1;");
        faulty(1, TWO + "chapel 1 0000^1;");
        faulty(1, TWO + "bell b at 1 1 rope 0000^1;");
        faulty(1, TWO + "walker w from 1 1 to 1 1 does 0000^1;");
        faulty(1, TWO + "year 0000^1;");
        faulty(1, TWO + "harm 0099^9;");
        faulty(1, TWO + "storm 0000^000000000000000000000001;");
        faulty(1, TWO + "rides 9999^9;");
        faulty(1, TWO + "pays 1+0000^0;");
        faulty(1, TWO + "keeps 1=1000^0;");
        faulty(1, TWO + "rides 4294^967296;");
        asksWrong(1, "total 1000^0");
        asksWrong(1, "often number=0000^0");
    }

    private static void nameOfSixLetters() {
        Hand.at("NAMES: 1 to 6 letters; where a NAME is asked, a 7th letter at itself");
        good(2, TWO + "bell a at 1 1 rope 1;");
        good(2, TWO + "bell z at 1 1 rope 1;");
        WildHunt x = Hand.over(TWO + "bell abcxyz at 1 1 rope 1;walker zzzzzz from 0 0 to 0 0 does 0;");
        due("first letter", x.letter(0, 0, 0), 1);
        due("sixth letter", x.letter(0, 0, 5), 26);
        due("sixth letter", x.letter(1, 0, 5), 26);
        faulty(1, TWO + "bell abcxyz^a at 1 1 rope 1;");
        faulty(1, TWO + "walker zzzzzz^z from 0 0 to 0 0 does 0;");
        faulty(1, TWO + "bell abcdef^ghijklmnopqrstuvwxyz");
        faulty(1, TWO + "bell abcdef^g");
        // A NAME already given and a 7th letter: the NAME is another one.
        faulty(1, TWO + "bell abcdef at 1 1 rope 1;bell abcdef^g at 1 1 rope 1;");
        // An OWN WORD and more letters is none.
        faulty(1, TWO + "bell column^s at 1 1 rope 1;");
        good(2, TWO + "bell lands at 1 1 rope 1;");
        // No letters at all.
        faulty(1, TWO + "bell ^");
        faulty(1, TWO + "bell ^;");
        faulty(1, TWO + "bell ^1 at 1 1 rope 1;");
        faulty(1, TWO + "bell ^(a) at 1 1 rope 1;");
        // Beside a to z: the bytes before a and behind z, capitals, letters above 127.
        for (char c : new char[] {'`', '{', '@', 'A', 'Z', '[', '_', '\'', '-', 0, 127, 128, 225, 255}) {
            faulty(1, TWO + "bell ^" + c + " at 1 1 rope 1;");
            faulty(1, TWO + "bell a^" + c + " at 1 1 rope 1;");
        }
    }

    private static void noOwnWord() {
        Hand.at("NAMES: no OWN WORD; where a NAME is asked, an OWN WORD at its first byte");
        for (String word : OWN_WORDS) {
            faulty(1, TWO + "bell ^" + word + " at 1 1 rope 1;");
            faulty(1, TWO + "walker ^" + word + " from 0 0 to 0 0 does 0;");
            String more = word.length() < 6 ? word + "x" : word.substring(0, 5);
            good(2, TWO + "bell " + more + " at 1 1 rope 1;");
        }
        // The words that begin a QUESTION are no OWN WORDS.
        for (String word : ASKING_WORDS) {
            good(2, TWO + "bell " + word + " at 1 1 rope 1;");
            good(2, TWO + "walker " + word + " from 0 0 to 0 0 does 0;");
        }
    }

    private static void unlikeNames() {
        Hand.at("NAMES: unlike ones (of all sorts); 3 a NAME to be given that is there already, at it");
        String bell = "bell ring at 1 1 rope 1;";
        String walker = "walker ring from 0 0 to 0 0 does 0;";
        faulty(3, TWO + bell + "bell ^ring at 1 1 rope 1;");
        faulty(3, TWO + bell + "walker ^ring from 0 0 to 0 0 does 0;");
        faulty(3, TWO + walker + "bell ^ring at 1 1 rope 1;");
        faulty(3, TWO + walker + "walker ^ring from 0 0 to 0 0 does 0;");
        faulty(3, TWO + bell + "bell ^ring");
        faulty(3, TWO + bell + "bell ^ring1");
        faulty(3, TWO + bell + "bell ^ring;");
        faulty(3, TWO + bells(5) + walkers(5) + "walker ^be");
        faulty(3, TWO + bells(4) + walkers(6) + "bell ^wf");
        faulty(3, TWO + bells(4) + walkers(6) + "bell ^ba");
        // Unlike by their last letter, by one letter more, by one less.
        good(6, TWO + bell + "bell rink at 1 1 rope 1;bell rings at 1 1 rope 1;walker rin from 0 0 to 0 0 does 0;walker bring from 0 0 to 0 0 does 0;");
        good(3, TWO + "bell a at 1 1 rope 1;bell aa at 1 1 rope 1;");
        // A NAME of the LAND before is free again.
        WildHunt x = Hand.over(TWO + bell);
        due("another LAND", Hand.land(x, TWO + walker), 2);
    }

    private static void blanks() {
        Hand.at("Blanks (10, 32) are where one likes");
        good(1, "land\n2\nby\n2\nhunt\n0\n0\n;");
        good(1, "   land   2   by   2   hunt   0   0   ;   ");
        good(2, " \nland 2 by 2 hunt 0 0 \n;\n\n keeps \n not [ 1 < ( 2 ) ] and min ( 1 , 2 ) = 1 ; \n");
        good(4, TWO + "rides(hour+1)*2/3-4;pays min(1,max(2,3));keeps[1<2]or[not[all]]and(1)=(1);");
        for (int b = 0; b < 256; b++) {
            boolean known = b == 10 || b == 32 || b == '^' || b >= '0' && b <= '9';
            if (!known) {
                boolean letter = b >= 'a' && b <= 'z';
                faulty(1, letter ? "^land" + (char) b + "2 by 2 hunt 0 0;" : "land^" + (char) b + "2 by 2 hunt 0 0;");
                faulty(1, "land 2 by 2 hunt 0 ^" + (char) b + " 0;");
            }
        }
    }

    private static void sideBySide() {
        Hand.at("words and numbers side by side need a blank");
        faulty(1, "land^2 by 2 hunt 0 0;");
        faulty(1, "land 2^by 2 hunt 0 0;");
        faulty(1, "land 2 by^2 hunt 0 0;");
        faulty(1, "land 2 by 2^hunt 0 0;");
        faulty(1, "land 2 by 2 hunt^0 0;");
        faulty(1, "land 2 by 2 hunt 00^;");
        faulty(1, "land 2 ^byhunt 2 hunt 0 0;");
        faulty(1, TWO + "year^5;");
        faulty(1, TWO + "rides^5;");
        faulty(1, TWO + "bell a^1 at 1 1 rope 1;");
        faulty(1, TWO + "bell a at^1 1 rope 1;");
        faulty(1, TWO + "bell a at 1 1^rope 1;");
        faulty(1, TWO + "keeps 1=1^and 1=1;");
        faulty(1, TWO + "keeps 1=1 and^1=1;");
        faulty(1, TWO + "keeps not^1=1;");
        faulty(1, TWO + "keeps ^notall;");
        asksWrong(1, "often 1=1^or 1=1");
        asksWrong(1, "total near^1");
        asksWrong(1, "total^1");
        // A number that is a sign's byte stands for no sign: 59 ; 43 + 45 - 42 * 47 / 41 ) 44 , 60 < 61 = 62 > 93 ]
        faulty(1, TWO + "year 59^year 5;");
        for (int sign : new int[] {'+', '-', '*', '/'}) {
            faulty(1, TWO + "rides " + sign + "^hour;");
            asksWrong(1, "total " + sign + "^row");
        }
        for (int sign : new int[] {'<', '=', '>'}) {
            faulty(1, TWO + "keeps " + sign + "^hour;");
            asksWrong(1, "often " + sign + "^row");
        }
        faulty(1, TWO + "rides min(44^hour);");
        faulty(1, TWO + "rides (41^hour;");
        faulty(1, TWO + "keeps [1=93^and all;");
        // A sign between them is enough.
        good(2, TWO + "keeps[1=1]and[hour=1]or(1)<2 and 1=1;");
    }

    // ---- the FAULTS' places

    private static void wholeWords() {
        Hand.at("1 words and numbers whole, at their first byte");
        faulty(1, "^lan 2 by 2 hunt 0 0;");
        faulty(1, "^landx 2 by 2 hunt 0 0;");
        faulty(1, "^landlandland");
        faulty(1, "^l");
        faulty(1, "land 2 ^b 2 hunt 0 0;");
        faulty(1, "land 2 ^byy 2 hunt 0 0;");
        faulty(1, "land 2 ^22");
        faulty(1, "land 2 ^99999999");
        faulty(1, "land ^by");
        faulty(1, "land ^columns");
        faulty(1, "land 2 by 2 ^hun 0 0;");
        faulty(1, "land 2 by 2 ^hunted 0 0;");
        faulty(1, TWO + "^chape 1 1;");
        faulty(1, TWO + "^storms 1;");
        faulty(1, TWO + "^123456;");
        faulty(1, TWO + "bell a ^att 1 1 rope 1;");
        faulty(1, TWO + "bell a at 1 1 ^ropes 1;");
        faulty(1, TWO + "walker a ^fro 1 1 to 1 1 does 1;");
        faulty(1, TWO + "walker a from 1 1 ^too 1 1 does 1;");
        faulty(1, TWO + "walker a from 1 1 to 1 1 ^do 1;");
        faulty(1, TWO + "rides ^hou;");
        faulty(1, TWO + "rides ^nightly;");
        faulty(1, TWO + "rides ^mins(1,2);");
        faulty(1, TWO + "rides ^ring;");
        faulty(1, TWO + "keeps ^nots all;");
        faulty(1, TWO + "keeps ^alls;");
        faulty(1, TWO + "keeps all ^ands all;");
        faulty(1, TWO + "keeps all ^orr all;");
        // A NAME is no word where none is asked.
        faulty(1, TWO + "bell ring at 1 1 rope 1;^ring 1;");
        faulty(1, TWO + "bell ring at 1 1 rope 1;rides ^ring;");
    }

    private static void endsTooSoon() {
        Hand.at("1 at the text's length, if it ends too soon");
        String[] parts = "land 2 by 2 hunt 0 0 ; chapel 1 1 ; bell a at 1 1 rope 1 ; walker b from 0 0 to 1 1 does 1 ; rides ( 1 + hour ) * min ( 1 , max ( 2 , 3 ) ) ; keeps not [ all or 1 < 2 and 3 > 2 ] ; year 1 ; harm 1 ; storm 1 ;"
            .split(" ");
        StringBuilder text = new StringBuilder();
        int statements = 0;
        for (String part : parts) {
            text.append(part);
            if (part.equals(";")) {
                statements++;
                good(statements, text.toString());
                good(statements, text + " \n ");
            } else {
                faulty(1, text + "^");
                faulty(1, text + "  \n ^");
            }
            text.append(' ');
        }
        String[] question = "often not [ near ( 1 + hour ) * min ( 1 , max ( 2 , 3 ) ) > 2 and all or row".split(" ");
        StringBuilder asked = new StringBuilder();
        for (String part : question) {
            asked.append(part);
            asksWrong(1, asked + "^");
            asked.append(' ');
            asksWrong(1, asked + "\n^");
        }
        asksWrong(1, "^");
        asksWrong(1, " \n ^");
    }

    private static void firstAlongTheText() {
        Hand.at("FAULTS, the first along the text");
        faulty(2, "land ^1 by 1 hunt 9 9");
        faulty(2, "land 3 by ^8 hunt 3 3 chapel");
        faulty(2, "land 3 by 3 hunt ^3 3;x");
        faulty(1, "land 3 ^x 1 hunt 9 9;");
        faulty(2, THREE + "chapel 0 ^0 chapel 9 9;");
        faulty(2, THREE + "chapel 0 ^0x;");
        faulty(2, THREE + "chapel 1 1;chapel 1 ^1?");
        faulty(3, THREE + "bell a at 1 1 rope 1;bell ^a at 9 9 rope 999;");
        faulty(2, THREE + "bell a at ^9 9 rope 1;bell a at 1 1 rope 1;");
        faulty(1, THREE + "bell a at 1 1 rope 1 ^bell a at 1 1 rope 1;");
        faulty(4, THREE + "rides ((((((^((x;year 0;");
        faulty(1, THREE + "rides (((((^x(((((;");
        faulty(2, THREE + "year ^0;rides (((((((1)))))));");
        faulty(5, THREE + "rides 1;^rides (((((((1)))))));");
        faulty(4, THREE + "rides ((((((^(1)))))));rides 1;");
        faulty(1, THREE + "year 1^?" + "year 1;".repeat(100));
        faulty(2, THREE + "year ^0;" + "year 1;".repeat(100));
    }

    // ---- SUMS and TESTS

    private static void partsOfRides() {
        Hand.at("PART: in rides: column; row");
        for (String word : new String[] {"hour", "night", "column", "row"}) {
            good(2, TWO + "rides " + word + ";");
        }
        for (String word : OWN_WORDS) {
            boolean part = word.equals("hour") || word.equals("night") || word.equals("column") || word.equals("row");
            boolean opens = word.equals("min") || word.equals("max");
            if (!part && !opens) {
                faulty(1, TWO + "rides ^" + word + ";");
                faulty(1, TWO + "rides 1+^" + word + " 1;");
            }
        }
        faulty(1, TWO + "rides ^w;");
    }

    private static void partsOfPaysAndKeeps() {
        Hand.at("PART: in pays, keeps: manner; met; purse");
        String parts = " hour night manner met purse ";
        for (String word : OWN_WORDS) {
            boolean opens = word.equals("min") || word.equals("max") || word.equals("not") || word.equals("all");
            if (parts.contains(" " + word + " ")) {
                good(3, TWO + "pays " + word + ";keeps " + word + "=1;");
            } else if (!opens) {
                faulty(1, TWO + "pays ^" + word + ";");
                faulty(1, TWO + "pays 1*^" + word + " 1;");
                faulty(1, TWO + "keeps ^" + word + "=1;");
                faulty(1, TWO + "keeps 1=^" + word + ";");
            }
        }
        faulty(1, TWO + "pays ^not all;");
        faulty(1, TWO + "pays ^all;");
        faulty(1, TWO + "keeps 1=^all;");
        faulty(1, TWO + "keeps 1=^not 1;");
    }

    private static void openOfOneSort() {
        Hand.at("4 the 7th of ( [ not that is open at once, at it");
        good(2, THREE + "rides ((((((1))))));");
        faulty(4, THREE + "rides ((((((^(1)))))));");
        good(2, THREE + "pays ((((((1))))));");
        faulty(4, THREE + "pays ((((((^(1)))))));");
        good(2, THREE + "keeps ((((((1))))))=((((((1))))));");
        faulty(4, THREE + "keeps ((((((1))))))=((((((^(1)))))));");
        good(2, THREE + "keeps [[[[[[all]]]]]];");
        faulty(4, THREE + "keeps [[[[[[^[all]]]]]]];");
        good(2, THREE + "keeps not not not not not not all;");
        faulty(4, THREE + "keeps not not not not not not ^not all;");
        good(2, THREE + "rides min(min(min(min(min(min(1,2),2),2),2),2),2);");
        faulty(4, THREE + "rides min(min(min(min(min(min(min^(1,2),2),2),2),2),2),2);");
        faulty(4, THREE + "rides max(1,max(1,max(1,max(1,max(1,max(1,max \n^(1");
        // What stands in place of the 7th one is looked at first.
        faulty(1, THREE + "rides min(min(min(min(min(min(min^,");
        faulty(1, THREE + "rides ((((((^[1");
        faulty(1, THREE + "keeps ((((((^not");
        faulty(1, THREE + "rides ((((((^)");
    }

    private static void openOfAllSorts() {
        Hand.at("4 the 7th of ( [ not together");
        good(2, THREE + "keeps not [not [not (1)=1]];");
        good(2, THREE + "keeps not [not [not [all]]];");
        faulty(4, THREE + "keeps not [not [not [^(1)=1]]];");
        faulty(4, THREE + "keeps not [not [not [^not all]]];");
        faulty(4, THREE + "keeps not [not [not [1=min^(1,2)]]];");
        faulty(4, THREE + "keeps [[[[[(1)=1 and (^(2)");
        faulty(4, THREE + "keeps [[[[[(1)=(^(2))]]]]];");
        faulty(4, THREE + "keeps not not not not not 1=(^(2));");
        asksWrong(4, "often not [not [not [^not all]]]");
        asksWrong(4, "total ((((((^(1)))))))");
        asksWrong(4, "most max(((((1+(^(");
    }

    private static void openUntilItEnds() {
        Hand.at("4 open at once: ( until ), [ until ], not until its FACT ends");
        good(2, THREE + "rides ((((((1))))))+((((((1))))))*((((((1))))));");
        good(2, THREE + "keeps " + "not all and ".repeat(12) + "all;");
        good(2, THREE + "keeps " + "not all or ".repeat(12) + "all;");
        good(2, THREE + "keeps not not not not not not all and not not not not not not all;");
        good(2, THREE + "keeps [[[[[[all]]]]]] and [[[[[[all]]]]]] or [[[[[[all]]]]]];");
        good(2, THREE + "keeps not [all] and [[[[[[all]]]]]];");
        good(2, THREE + "keeps not (1)=(1) and ((((((1))))))=1;");
        // The not is open through both SUMS of its FACT.
        faulty(4, THREE + "keeps not 1=(((((^(1))))));");
        faulty(4, THREE + "keeps not (((((1)))))=(((((^(1))))));");
        good(2, THREE + "keeps not (((((1)))))=(((((1)))));");
        // Both SUMS of min are within its bracket.
        faulty(4, THREE + "rides min(1,(((((^(1)))))));");
        good(2, THREE + "rides min(1,(((((1))))))+((((((1))))));");
        // Each STATEMENT begins anew.
        good(4, THREE + "rides ((((((1))))));pays ((((((1))))));keeps [[[[[[all]]]]]];");
    }

    private static long worth(String sum) {
        return Hand.ask(Hand.over(ONE_WALKER), "total " + sum);
    }

    private static void divisions() {
        Hand.at("/ gives the greatest whole number not above, by 0 it gives 0");
        int[][] due = {{7, 2, 3}, {6, 2, 3}, {1, 2, 0}, {0, 5, 0}, {-1, 2, -1}, {-7, 2, -4}, {-6, 2, -3}, {7, -2, -4}, {6, -2, -3}, {-7, -2, 3},
            {1, -2, -1}, {-1, -2, 0}, {9999, 9999, 1}, {9998, 9999, 0}, {-9998, 9999, -1}, {7, 0, 0}, {-7, 0, 0}, {0, 0, 0}};
        for (int[] row : due) {
            String text = signed(row[0]) + "/" + signed(row[1]);
            due(text, worth(text), row[2]);
        }
        due("by 0 in the midst", worth("5+7/(3-3)*9"), 5);
        due("the greatest by -1", worth("(1000*1000)/(0-1)"), -1000000);
        due("the least by -1", worth("(0-1000*1000)/(0-1)"), 1000000);
    }

    private static String signed(int n) {
        return n < 0 ? "(0-" + -n + ")" : "" + n;
    }

    private static void millions() {
        Hand.at("each sum, difference, product above 10 to the 6 is that, below -10 to the 6 likewise");
        String most = "(1000*1000)";
        String least = "(0-1000*1000)";
        due("a product of just that", worth("1000*1000"), 1000000);
        due("a product above", worth("1001*1000"), 1000000);
        due("a product just within", worth("999*1001"), 999999);
        due("a sum of just that", worth("999*1001+1"), 1000000);
        due("a sum above", worth("999*1001+2"), 1000000);
        due("a difference above", worth(most + "-(0-1)"), 1000000);
        due("a difference of just that", worth("999*1001-(0-1)"), 1000000);
        due("a product of just the least", worth("(0-1000)*1000"), -1000000);
        due("a product below", worth("(0-1001)*1000"), -1000000);
        due("a product just within", worth("(0-999)*1001"), -999999);
        due("a sum below", worth(least + "+(0-1)"), -1000000);
        due("a difference below", worth(least + "-1"), -1000000);
        due("a difference just within", worth("0-999*1001"), -999999);
        due("each, not the whole: sums", worth(most + "+5-5"), 999995);
        due("each, not the whole: products", worth(most + "*9999/9999"), 100);
        due("each, not the whole: differences", worth(least + "-5+5"), -999995);
        due("beyond 32 bits", worth("9999*9999*9999*9999"), 1000000);
        due("beyond 32 bits", worth(most + "*" + most), 1000000);
        due("beyond 32 bits below", worth(most + "*" + least), -1000000);
        due("beyond 32 bits twice below", worth(least + "*" + least), 1000000);
        due("min, max within", worth("max(" + most + ",7)+min(7," + least + ")"), 0);
    }

    private static void millionsWhereTheyAreUsed() {
        Hand.at("10 to the 6 in rides, pays, keeps");
        // 9999 * 9999 is 0 modulo 9, 10 to the 6 is 1, -10 to the 6 is 8.
        WildHunt up = Hand.over("land 3 by 3 hunt 1 1;rides 9999*9999;");
        due("way 1 column", up.hunt(1, 0), 1);
        due("way 1 row", up.hunt(1, 1), 0);
        WildHunt back = Hand.over("land 3 by 3 hunt 1 1;rides 0-9999*9999;");
        due("way 8 column", back.hunt(1, 0), 0);
        due("way 8 row", back.hunt(1, 1), 0);
        String met = TWO + "walker w from 0 0 to 0 0 does 2;";
        WildHunt paid = Hand.over(met + "pays 9999*9999-999*1000-9;");
        paid.nights(1);
        due("10 to the 6 less 999009", paid.walker(0, 6), 991);
        WildHunt kept = Hand.over(met + "keeps 9999*9999=1000*1000;");
        kept.nights(1);
        due("like ones", kept.walker(0, 7), 12);
        WildHunt free = Hand.over(met + "keeps 9999*9999>1000*1000;");
        free.nights(1);
        due("none above", free.walker(0, 7), 0);
    }

    private static void holds(String test, boolean want) {
        due("often " + test, Hand.ask(Hand.over(ONE_WALKER), "often " + test), want ? 1 : 0);
    }

    private static void comparisons() {
        Hand.at("SUM SIGN SUM, SIGN < or > or =");
        int[][] pairs = {{0, 0}, {1, 1}, {1, 2}, {2, 1}, {0, 9999}, {9999, 0}, {9999, 9999}, {-1, 0}, {0, -1}, {-1, -1}, {-2, -1}, {-1, -2}, {-1, 1}};
        for (int[] pair : pairs) {
            String left = signed(pair[0]);
            String right = signed(pair[1]);
            holds(left + "<" + right, pair[0] < pair[1]);
            holds(left + ">" + right, pair[0] > pair[1]);
            holds(left + "=" + right, pair[0] == pair[1]);
            holds("not " + left + "=" + right, pair[0] != pair[1]);
        }
    }

    private static void bothAndEither() {
        Hand.at("TEST: BOTH { or BOTH }. BOTH: FACT { and FACT }. FACT: not FACT; [ TEST ]; all");
        String[] sides = {"not all", "all"};
        for (int a = 0; a < 2; a++) {
            for (int b = 0; b < 2; b++) {
                holds(sides[a] + " and " + sides[b], a == 1 && b == 1);
                holds(sides[a] + " or " + sides[b], a == 1 || b == 1);
                holds("not [" + sides[a] + " and " + sides[b] + "]", a == 0 || b == 0);
                for (int c = 0; c < 2; c++) {
                    holds(sides[a] + " or " + sides[b] + " and " + sides[c], a == 1 || b == 1 && c == 1);
                    holds(sides[a] + " and " + sides[b] + " or " + sides[c], a == 1 && b == 1 || c == 1);
                    holds("[" + sides[a] + " or " + sides[b] + "] and " + sides[c], (a == 1 || b == 1) && c == 1);
                    holds(sides[a] + " or " + sides[b] + " or " + sides[c], a + b + c > 0);
                    holds(sides[a] + " and " + sides[b] + " and " + sides[c], a + b + c == 3);
                }
            }
        }
        holds("not not all", true);
        holds("not not not all", false);
        holds("not not not not not not all", true);
    }

    private static void longestTexts() {
        Hand.at("a text of 1600 bytes");
        // 7 bytes and 796 times two more, and a blank.
        String question = "total 1" + "+1".repeat(796) + " ";
        due("bytes", question.length(), 1600);
        WildHunt x = Hand.over(ONE_WALKER);
        due("797 summands", Hand.ask(x, question), 797);
        due("once more", Hand.ask(x, question), 797);
        due("and once more", Hand.ask(x, question.replace('+', '-')), -795);
        // Its last byte is a digit, a letter, a sign.
        String digit = "total 11" + "+1".repeat(796);
        due("bytes", digit.length(), 1600);
        due("a digit", Hand.ask(x, digit), 807);
        due("a letter", Hand.ask(x, " ".repeat(1591) + "often all"), 1);
        due("a sign", Hand.ask(x, " ".repeat(1591) + "total (7)"), 7);
        faulty(1, " ".repeat(1596) + "land^");
        faulty(1, " ".repeat(1580) + "land 2 by 2 hunt 0 0^");
        good(1, " ".repeat(1579) + "land 2 by 2 hunt 0 0;");
        faulty(1, " ".repeat(1568) + TWO + "bell abcdef^");
        faulty(1, " ".repeat(1567) + TWO + "bell abcdef^g");
        // 786 summands are 3 modulo 9, one less is 2.
        String land = "land 2 by 2 hunt 0 0;rides 1" + "+1".repeat(785) + "; ";
        due("bytes", land.length(), 1600);
        WildHunt y = new WildHunt();
        for (int turn = 0; turn < 3; turn++) {
            due("land", Hand.land(y, land), 2);
            due("way 3, column", y.hunt(1, 0), 1);
            due("way 3, row", y.hunt(1, 1), 0);
        }
        String nots = "often " + "not all or ".repeat(144) + "all";
        due("bytes", nots.length(), 1593);
        due("144 nots, then all", Hand.ask(x, nots), 1);
        due("ends too soon", Hand.ask(x, "total 1" + "+1".repeat(796) + "+"), WildHunt.NOTHING);
        due("at its length", x.fault(1), 1600);
    }

    private static String deep(int depth) {
        return depth == 0 ? "1" : "1+1*min(1," + deep(depth - 1) + ")";
    }

    private static void deepestSums() {
        Hand.at("six open at once, with all that waits for them");
        due("six min", worth(deep(6)), 2);
        holds("not all or all and 1<" + deep(6), true);
        holds("not all or all and 2<" + deep(6), false);
        String deepTest = "not all or all and [not all or all and [not all or all and [not all or all and 1<" + deep(3) + "]]]";
        holds(deepTest, true);
        holds(deepTest.replace("1<1", "2<1"), false);
        WildHunt x = Hand.over("land 3 by 3 hunt 1 1;rides " + deep(6) + ";");
        due("way 2, column", x.hunt(1, 0), 2);
        due("way 2, row", x.hunt(1, 1), 0);
    }

    // ---- questions

    private static void questionWords() {
        Hand.at("1 as in I (an unknown word at its first byte)");
        for (String word : OWN_WORDS) {
            asksWrong(1, "^" + word + " all");
        }
        for (String word : new String[] {"firs", "firsts", "lasts", "ofte", "totals", "mos", "mosts", "leas", "leasts", "x", "abcdefghij", "First"}) {
            asksWrong(1, "^" + word + " all");
        }
        asksWrong(1, "^1");
        asksWrong(1, "^;");
        asksWrong(1, "^\u00ff");
        asksWrong(1, " \n ^? all");
        asksWrong(1, "first ^first");
        asksWrong(1, "first ^w=1");
        asksWrong(1, "total ^w");
        asksWrong(1, "total 1+^numbers");
        asksWrong(1, "total number^1");
        asksWrong(1, "total ^abcdefgh");
        // A SUM where a TEST is asked, a TEST where a SUM is asked.
        asksWrong(1, "first 1^");
        asksWrong(1, "last number^");
        asksWrong(1, "often 1+1 ^");
        asksWrong(1, "total ^all");
        asksWrong(1, "most ^not all");
        asksWrong(1, "least 1^=1");
        asksWrong(1, "least ^[all]");
    }

    private static void questionParts() {
        Hand.at("IV. PART: N; number; column; row; manner; met; purse; gone; hour; night; near PART; ( SUM ); min; max");
        String parts = " number column row manner met purse gone hour night ";
        for (String word : OWN_WORDS) {
            if (parts.contains(" " + word + " ")) {
                WildHunt x = Hand.over(ONE_WALKER);
                due(word, Hand.ask(x, "total " + word + "*0+1"), 1);
                due(word, x.fault(0), 0);
            } else if (!word.equals("near") && !word.equals("min") && !word.equals("max")) {
                asksWrong(1, "total ^" + word + " 1");
            }
        }
        due("near", worth("near 0*0+1"), 1);
        due("min", worth("min(1,2)"), 1);
        due("max", worth("max(1,2)"), 2);
    }

    private static void behindTheQuestion() {
        Hand.at("1 what stands behind it, too");
        WildHunt x = Hand.over(TWO);
        due("blanks", Hand.ask(x, " often \n all \n "), 0);
        for (String behind : new String[] {";", "x", "7", "all", "?", ")", "]", "\u0000", "\t", "=1", "first all"}) {
            asksWrong(1, "often all ^" + behind);
            asksWrong(1, "first 1=1 ^" + behind);
        }
        for (String behind : new String[] {";", "x", "7", "all", "?", ")", "]", "\u0000", "\t", "=1", "first all", "(1)", "and all"}) {
            asksWrong(1, "total 1 ^" + behind);
            asksWrong(1, "most (1) ^" + behind);
        }
        asksWrong(1, "often all^;");
    }

    private static void nearOpen() {
        Hand.at("4 the 7th of ( [ not near that is open at once (near until its PART ends), at it");
        WildHunt x = Hand.over(TWO);
        due("six", Hand.ask(x, "total near near near near near near 1"), 0);
        due("no FAULT", x.fault(0), 0);
        asksWrong(4, "total near near near near near near ^near 1");
        due("near ends with its PART", Hand.ask(x, "total near 1+near near near near near near 1*near near near near near near 1"), 0);
        due("no FAULT", x.fault(0), 0);
        due("near ends with its bracket", Hand.ask(x, "total near (((((1)))))+((((((1))))))"), 0);
        due("no FAULT", x.fault(0), 0);
        due("near of min", Hand.ask(x, "total near min(1,((((1)))))"), 0);
        due("no FAULT", x.fault(0), 0);
        asksWrong(4, "total near (((((^(1");
        asksWrong(4, "total near min(1,((((^(1");
        asksWrong(4, "often not [near near near near ^near 1=1]");
        asksWrong(4, "often [[[[[[^near 1");
        due("not and near", Hand.ask(x, "often not [near near near (1)=1]"), 0);
        due("no FAULT", x.fault(0), 0);
        asksWrong(1, "total near near near near near near ^+");
        asksWrong(1, "total near near near near near near ^[");
    }

    private static void nearHours() {
        Hand.at("how far his home is from where the HUNT is in the HOUR of that number, 0 without such an HOUR");
        // The HUNT stays at 0 0, but goes to 1 0 from HOUR 10 to HOUR 11; the home 3 1 is 3, then 2 from it.
        WildHunt x = Hand.over("land 4 by 2 hunt 0 0;rides hour/10*3;walker w from 3 1 to 3 1 does 0;");
        due("near 0", Hand.ask(x, "total near 0"), 3);
        due("near 10", Hand.ask(x, "total near 10"), 3);
        due("near 11", Hand.ask(x, "total near 11"), 2);
        due("near 12", Hand.ask(x, "total near 12"), 0);
        due("near 13", Hand.ask(x, "total near 13"), 0);
        due("near 9999", Hand.ask(x, "total near 9999"), 0);
        due("near -1", Hand.ask(x, "total near (0-1)"), 0);
        due("near -10 to the 6", Hand.ask(x, "total near (0-9999*9999)"), 0);
        due("near 10 to the 6", Hand.ask(x, "total near (9999*9999)"), 0);
        due("near the HOUR of no meeting", Hand.ask(x, "total near hour"), 0);
    }

    private static void valuesAtTheMost() {
        Hand.at("his number, home, MANNER, how often he MET it, purse, for how many NIGHTS more he is GONE, the HOUR, the NIGHT");
        StringBuilder text = new StringBuilder("land 7 by 7 hunt 0 0;rides 0;");
        int[] image = new int[3 + 36];
        image[0] = 3;
        image[1] = 231;
        for (int k = 0; k < 6; k++) {
            text.append("walker w").append((char) ('a' + k)).append(" from ").append(k == 5 ? "6 5" : "0 0").append(" to 0 0 does 2;");
        }
        int last = 3 + 30;
        image[last] = 3;
        image[last + 1] = 39;
        image[last + 2] = 15;
        image[last + 3] = 39;
        image[last + 4] = 14;
        image[last + 5] = 99;
        WildHunt x = Hand.over(text.toString());
        Hand.put(x, Hand.checked(image));
        Hand.due("on", x.on(), true);
        String[] words = {"number", "column", "row", "manner", "met", "purse", "gone", "night"};
        int[] greatest = {5, 6, 5, 3, 9999, 9998, 99, 999};
        int[] all = {15, 6, 5, 3, 9999, 9998, 99, 5994};
        for (int k = 0; k < words.length; k++) {
            due("most " + words[k], Hand.ask(x, "most " + words[k]), greatest[k]);
            due("total " + words[k], Hand.ask(x, "total " + words[k]), all[k]);
            due("least " + words[k], Hand.ask(x, "least " + words[k]), words[k].equals("night") ? 999 : 0);
            due("last of the most", Hand.ask(x, "last " + words[k] + "=" + greatest[k]), 5);
        }
        // Five lie down, the sixth is GONE: none would MEET it. Then one helps.
        due("hour", Hand.ask(x, "total hour"), 72);
        x.does(2, 2);
        due("HOUR 0", Hand.ask(x, "least hour"), 0);
        due("who", Hand.ask(x, "first hour=0"), 2);
        due("12 if he would not", Hand.ask(x, "often hour=12"), 5);
        // The NIGHT, too, where nothing else asks for it.
        WildHunt y = Hand.over(ONE_WALKER);
        due("NIGHT 0", Hand.ask(y, "total night"), 0);
        Hand.put(y, Hand.checked(3, 231, 0, 0, 0, 0, 0, 0, 0));
        Hand.due("on", y.on(), true);
        due("NIGHT 999", Hand.ask(y, "total night"), 999);
    }

    private static void withoutWalkers() {
        Hand.at("most SUM, least SUM (0 without WALKERS); first, last NONE, often, total 0");
        WildHunt x = Hand.over(TWO);
        due("most", Hand.ask(x, "most 5"), 0);
        due("most below 0", Hand.ask(x, "most 0-5"), 0);
        due("least", Hand.ask(x, "least 5"), 0);
        due("total", Hand.ask(x, "total 5"), 0);
        due("often", Hand.ask(x, "often all"), 0);
        due("first", Hand.ask(x, "first all"), NONE);
        due("last", Hand.ask(x, "last all"), NONE);
        // With one WALKER 0 is no bound.
        due("most of one", worth("0-5"), -5);
        WildHunt y = Hand.over(ONE_WALKER);
        due("most below 0", Hand.ask(y, "most 0-5"), -5);
        due("least above 0", Hand.ask(y, "least 5"), 5);
    }
}
