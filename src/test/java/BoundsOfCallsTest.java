/**
 * The boundary cases of the sections "Promise 1" to "Promise 33": too small, too large, empty, full, refused.
 * Each method stands for one sentence, which it names. A refused call is counted once, where it is due, and changes nothing.
 */
public final class BoundsOfCallsTest {
    private static final int NONE = -1;
    private static final long NOTHING = -1000000000000000L;
    private static final int BLANKS = 0x20202020;
    private static final int TAPE = 0;
    private static final int TEXT = 1;
    private static final int SMALL_ACT = 2;
    private static final int NIGHTS = 3;
    private static final int UNDO = 4;
    private static final int SEED = 5;
    private static final int NOT_COUNTED = -1;
    private static final int[] EXTREMES = {Integer.MIN_VALUE, -1, 0, 1, 2, 11, 12, 60, Integer.MAX_VALUE};
    private static final String TWO = "land 2 by 2 hunt 0 0;";
    /** Two WALKERS where the HUNT comes, two BELLS, a CHAPEL. */
    private static final String FULL = "land 4 by 3 hunt 0 0;chapel 3 2;bell ding at 3 0 rope 4;bell dong at 0 2 rope 5;"
        + "walker a from 1 0 to 1 0 does 2;walker b from 2 0 to 2 0 does 1;pays 7;year 3;storm 50;";

    public static void main(String[] args) {
        newObject();
        calls512();
        feedMoreThan1600();
        feedHighestFirst();
        endNotSoMany();
        endBelowZero();
        endIsAPrefix();
        landWithAFault();
        landWithoutAStatement();
        landAllAsAtFirst();
        faultAheadOfAny();
        faultOthers();
        hasOthers();
        hasAtTheMost();
        hasGoneForOne();
        letterBehindTheName();
        letterNoneSuch();
        cellNoneSuch();
        bellNoneSuch();
        bellIsRung();
        walkerNoneSuch();
        toldNoneSuch();
        huntNoneSuch();
        meetsNoneSuch();
        safeNoneSuch();
        laterCanNotBe();
        laterIsAsNights();
        chapelCanNotBe();
        firstNoneSuch();
        firstWithin60();
        seeOneToTwelve();
        seeNoneSuch();
        beganOthers();
        tellsOthers();
        ringRefused();
        doesRefused();
        nightsRefused();
        chanceRefused();
        chanceIsOneAct();
        undoRefused();
        undoEachAct();
        seedBelowZero();
        seedAtFirst();
        askHoldsForNone();
        askWithAFault();
        askWithoutALand();
        imageSizes();
        octetNoneSuch();
        onAtTheMost();
        onBeyond();
        onOfAnotherSize();
        onLastByte();
        onWithoutALand();
        statusOthers();
        statusByKinds();
        anyNumbers();
        Hand.end();
    }

    private static void due(String call, long got, long want) {
        Hand.due(call, got, want);
    }

    private static void due(String call, boolean got, boolean want) {
        Hand.due(call, got, want);
    }

    private static int feed(WildHunt x) {
        return x.feed(BLANKS, BLANKS, BLANKS, BLANKS, BLANKS);
    }

    private static int see(WildHunt x, int... bytes) {
        Hand.put(x, bytes);
        return x.see();
    }

    private static boolean on(WildHunt x, int... bytes) {
        Hand.put(x, Hand.checked(bytes));
        return x.on();
    }

    /** NIGHT 2, two acts, three meetings told, something SEEN: nothing is as at first. */
    private static WildHunt midway() {
        WildHunt x = Hand.over(FULL);
        x.nights(2);
        x.ring(1, 1);
        see(x, 1, 1, 0);
        return x;
    }

    // ---- a new object

    private static void newObject() {
        Hand.at("promise 1: no land, nobody");
        WildHunt x = new WildHunt();
        for (int k = 0; k < 12; k++) {
            due("has " + k, x.has(k), 0);
        }
        for (int k = 0; k < 6; k++) {
            due("status " + k, x.status(k), 0);
        }
        for (int k : EXTREMES) {
            due("letter", x.letter(0, k, 0), NONE);
            due("letter", x.letter(1, k, 0), NONE);
            due("cell", x.cell(k, 0, 0), NONE);
            due("cell", x.cell(0, k, 1), NONE);
            due("cell", x.cell(0, 0, k), NONE);
            due("bell", x.bell(k, 0), NONE);
            due("bell", x.bell(0, k), NONE);
            due("walker", x.walker(k, 0), NONE);
            due("walker", x.walker(0, k), NONE);
            due("told", x.told(k, 0), NONE);
            due("told", x.told(0, k), NONE);
            due("hunt", x.hunt(k, 0), NONE);
            due("hunt", x.hunt(0, k), NONE);
            due("meets", x.meets(k), NONE);
            due("safe", x.safe(k), NONE);
            due("later", x.later(k, 0), NONE);
            due("later", x.later(0, k), NONE);
            due("chapel", x.chapel(k, 0), NONE);
            due("chapel", x.chapel(1, k), NONE);
            due("first", x.first(k), NONE);
            due("began", x.began(k), NONE);
            due("tells", x.tells(k), NONE);
            due("octet", x.octet(k), NONE);
        }
        due("peal", x.peal(), NONE);
        due("rest", x.rest(), NONE);
        Hand.refuses("see", x, TEXT, NONE, x::see);
        Hand.refuses("land", x, TEXT, NONE, x::land);
    }

    private static void calls512() {
        Hand.at("an object is used for at most 512 calls after it has been made");
        WildHunt x = new WildHunt();
        // Three calls for the LAND, in which the HUNT is at 0 1 and 1 1 in turn; the 512th call still answers.
        x.feed(0x6c616e64, 0x20322062, 0x79203220, 0x68756e74, 0x20302031);
        x.feed(0x3b202020, BLANKS, BLANKS, BLANKS, BLANKS);
        due("land", x.land(), 1);
        for (int call = 4; call <= 512; call++) {
            due("call " + call, x.hunt(call % 12, 0), call % 2);
        }
    }

    // ---- the tape

    private static void feedMoreThan1600() {
        Hand.at("promise 2: NONE, refused (0), if there would be more than 1600");
        WildHunt x = new WildHunt();
        for (int k = 1; k <= 80; k++) {
            due("feed " + k, feed(x), 20 * k);
        }
        Hand.refuses("1620", x, TAPE, NONE, () -> feed(x));
        due("1600 stay", x.end(1600), true);
        due("1599", x.end(1599), true);
        Hand.refuses("1619", x, TAPE, NONE, () -> feed(x));
        due("1581", x.end(1581), true);
        Hand.refuses("1601", x, TAPE, NONE, () -> feed(x));
        due("1580", x.end(1580), true);
        due("1600", feed(x), 1600);
        // What was refused has left nothing: the text is 1600 blanks.
        due("land", x.land(), NONE);
        due("at its length", x.fault(1), 1600);
        due("the tape is empty", feed(x), 20);
    }

    private static void feedHighestFirst() {
        Hand.at("promise 2: of each number the highest first");
        WildHunt x = Hand.over(FULL);
        // HOUR 1, CELL 2 0.
        x.feed(0x01020000, 0x00000000, 0, 0, 0);
        x.end(3);
        due("three bytes", x.see(), 1);
        due("from 1 0 to 2 0", x.began(1), 1);
        // An HOUR of 255, of 128: bytes are not below 0.
        x.feed(0xff000000, 0, 0, 0, 0);
        x.end(3);
        due("255", x.see(), NONE);
        x.feed(0x80000000, 0, 0, 0, 0);
        x.end(3);
        due("128", x.see(), NONE);
        // The twelve rows go over all numbers and on into a second call.
        x.feed(0x00010000, 0x01000001, 0x00000100, 0x00010000, 0x01000001);
        x.feed(0x00000100, 0x00010000, 0x01000001, 0x00000100, 0);
        x.end(36);
        due("twelve", x.see(), 12);
        due("HOUR 0 at 1 0", x.began(1), 1);
        due("HOUR 0 at 1 0", x.began(0), 1);
    }

    private static void endNotSoMany() {
        Hand.at("promise 3: false, refused (0), if it has not so many");
        WildHunt x = new WildHunt();
        due("0 of 0", x.end(0), true);
        Hand.refuses("1 of 0", x, TAPE, () -> x.end(1));
        Hand.refuses("the greatest of 0", x, TAPE, () -> x.end(Integer.MAX_VALUE));
        feed(x);
        due("20 of 20", x.end(20), true);
        Hand.refuses("21 of 20", x, TAPE, () -> x.end(21));
        due("19 of 20", x.end(19), true);
        Hand.refuses("20 of 19", x, TAPE, () -> x.end(20));
        due("19 stay", feed(x), 39);
        due("none", x.end(0), true);
        Hand.refuses("1 of none", x, TAPE, () -> x.end(1));
        due("none stay", feed(x), 20);
    }

    private static void endBelowZero() {
        Hand.at("promise 3: false, refused (0), if n is below 0");
        WildHunt x = new WildHunt();
        feed(x);
        Hand.refuses("-1", x, TAPE, () -> x.end(-1));
        Hand.refuses("-20", x, TAPE, () -> x.end(-20));
        Hand.refuses("the least", x, TAPE, () -> x.end(Integer.MIN_VALUE));
        due("20 stay", feed(x), 40);
    }

    private static void endIsAPrefix() {
        Hand.at("promise 3: the tape has its first n bytes alone");
        WildHunt x = new WildHunt();
        // "land 2 by 2 hunt 0 1;;" as 22 bytes, of which 21 are a LAND and 20 end too soon.
        for (int n = 20; n <= 22; n++) {
            x.feed(0x6c616e64, 0x20322062, 0x79203220, 0x68756e74, 0x20302031);
            x.feed(0x3b3b2020, BLANKS, BLANKS, BLANKS, BLANKS);
            due("end " + n, x.end(n), true);
            due("land of " + n, x.land(), n == 21 ? 1 : NONE);
            due("fault of " + n, x.fault(1), n == 20 ? 20 : n == 21 ? NONE : 21);
        }
        // A word, a number and a NAME end where the tape ends, whatever had stood behind it.
        WildHunt y = Hand.over(TWO + "walker a from 0 0 to 0 0 does 2;");
        due("12 cut to 1", askCut(y, "total 12", 7), 1);
        due("123456 cut to 1234", askCut(y, "total 123456", 10), 1234);
        due("allx cut to all", askCut(y, "often allx", 9), 1);
        due("number cut to numbe", askCut(y, "total number", 11), NOTHING);
        due("at its first byte", y.fault(1), 6);
        due("hourly cut to hour", askCut(y, "total hourly", 10), 0);
        // Bytes behind the end do not come back.
        x.feed(0x6c616e64, 0x20322062, 0x79203220, 0x68756e74, 0x20302031);
        x.end(4);
        x.feed(BLANKS, BLANKS, BLANKS, BLANKS, BLANKS);
        due("land", x.land(), NONE);
        due("at its length", x.fault(1), 24);
    }

    private static long askCut(WildHunt x, String text, int n) {
        Hand.put(x, text);
        due("end " + n, x.end(n), true);
        return x.ask();
    }

    // ---- the LAND

    private static void landWithAFault() {
        Hand.at("promise 4: NONE, refused (1), with a FAULT (all stays)");
        String[] wrong = {"", "x", "land 1", TWO + "bell a at 0 0 rope 1;bell a", TWO + "rides (((((((", TWO + "rides 1;rides 1;",
            "land 2 by 2 hunt 0 0;walker q from 0 0 to 1 1 does 1;year 0;"};
        for (String text : wrong) {
            WildHunt x = midway();
            x.image();
            int first = x.octet(1);
            Hand.refuses("land() of " + text, x, TEXT, NONE, () -> Hand.land(x, text));
            due("the tape goes", feed(x), 20);
            due("letter", x.letter(1, 0, 0), 1);
            due("chapel", x.cell(3, 2, 0), 1);
            due("harm stays", x.bell(0, 4), 20);
            due("rope stays", x.bell(1, 4), 5);
            due("can be undone", x.undo(), true);
            due("octet", x.octet(1), first);
        }
    }

    private static void landWithoutAStatement() {
        Hand.at("promise 4: one without a STATEMENT has FAULT 1 at its length");
        WildHunt x = new WildHunt();
        due("empty", x.land(), NONE);
        due("FAULT", x.fault(0), 1);
        due("place", x.fault(1), 0);
        feed(x);
        due("blanks", x.land(), NONE);
        due("FAULT", x.fault(0), 1);
        due("place", x.fault(1), 20);
        feed(x);
        x.end(7);
        due("seven blanks", x.land(), NONE);
        due("place", x.fault(1), 7);
        due("status 1", x.status(1), 3);
    }

    private static void landAllAsAtFirst() {
        Hand.at("promise 4: without a FAULT all is as at first, nothing is TOLD, SEEN or can be undone; the seed stays");
        WildHunt x = midway();
        x.does(0, 3);
        x.seed(1103527590);
        due("land", Hand.land(x, FULL), 9);
        for (int k = 5; k < 12; k++) {
            due("has " + k, x.has(k), 0);
        }
        due("manner", x.walker(0, 4), 2);
        due("met", x.walker(0, 5), 0);
        due("purse", x.walker(0, 6), 0);
        due("gone", x.walker(1, 7), 0);
        due("rung", x.bell(1, 3), 0);
        due("told", x.told(0, 0), NONE);
        due("all CELLS but the CHAPEL", x.began(0), 11);
        Hand.refuses("undo", x, UNDO, x::undo);
        WildHunt y = Hand.over(FULL);
        y.chance(1);
        Hand.land(y, FULL);
        due("the seed stays", x.chance(40), y.chance(40));
        // A smaller LAND leaves nothing of the greater one.
        Hand.land(x, TWO);
        for (int k = 2; k < 12; k++) {
            due("has " + k, x.has(k), 0);
        }
        due("walker", x.walker(0, 0), NONE);
        due("bell", x.bell(0, 0), NONE);
        due("cell", x.cell(2, 0, 0), NONE);
    }

    private static void faultAheadOfAny() {
        Hand.at("promise 5: its FAULT (0 without, and ahead of any), its place (NONE without)");
        WildHunt x = new WildHunt();
        due("ahead of any", x.fault(0), 0);
        due("ahead of any", x.fault(1), NONE);
        due("without a LAND ask does nothing else", Hand.ask(x, "?"), NOTHING);
        due("ahead of any", x.fault(0), 0);
        due("ahead of any", x.fault(1), NONE);
        Hand.land(x, "land 2 by 9");
        due("FAULT 2", x.fault(0), 2);
        due("at 10", x.fault(1), 10);
        Hand.land(x, TWO);
        due("without", x.fault(0), 0);
        due("without", x.fault(1), NONE);
        Hand.ask(x, "total (((((((1");
        due("FAULT 4", x.fault(0), 4);
        due("at 12", x.fault(1), 12);
        // see() and on() have none.
        see(x, 1);
        on(x, 1);
        due("the latest land() or ask()", x.fault(0), 4);
        Hand.ask(x, "total 1");
        due("without", x.fault(0), 0);
        due("without", x.fault(1), NONE);
        Hand.ask(x, "?");
        due("place 0 is no NONE", x.fault(1), 0);
        Hand.land(x, TWO);
        due("without", x.fault(0), 0);
    }

    private static void faultOthers() {
        Hand.at("promise 5: NONE for another what");
        WildHunt x = Hand.over(TWO);
        Hand.land(x, "land 9");
        Hand.within("fault", 0, 1, x::fault);
    }

    private static void hasOthers() {
        Hand.at("promise 6: NONE for others");
        WildHunt x = midway();
        Hand.within("has", 0, 11, x::has);
        Hand.within("has of a new one", 0, 11, new WildHunt()::has);
    }

    private static void hasAtTheMost() {
        Hand.at("promise 6: how many there are, at the most");
        StringBuilder text = new StringBuilder("land 7 by 7 hunt 0 6;pays 9999;year 99;");
        for (int k = 0; k < 10; k++) {
            text.append("chapel ").append(k % 7).append(' ').append(k / 7).append(';');
        }
        for (int k = 0; k < 6; k++) {
            text.append("walker w").append((char) ('a' + k)).append(" from 0 6 to 0 6 does 1;");
        }
        for (int k = 0; k < 5; k++) {
            text.append("bell b").append((char) ('a' + k)).append(" at 6 2 rope 99;");
        }
        WildHunt x = Hand.over(text.toString());
        x.nights(1);
        see(x, new int[36]);
        for (int k = 0; k < 5; k++) {
            x.ring(k, 1);
        }
        for (int k = 0; k < 20; k++) {
            x.does(0, 2 + k % 2);
        }
        int[] due = {7, 7, 10, 5, 6, 1, 5, 6, 59994, 6, 12, 20};
        for (int k = 0; k < 12; k++) {
            due("has " + k, x.has(k), due[k]);
        }
    }

    private static void hasGoneForOne() {
        Hand.at("promise 6: 7 WALKERS who are GONE");
        WildHunt x = Hand.over(FULL);
        due("none", x.has(7), 0);
        on(x, 0, 0, 0, 2, 0, 0, 0, 0, 1, 1, 0, 0, 0, 0, 0);
        due("for one NIGHT more", x.has(7), 1);
        due("AHEAD", x.later(0, 1), 1);
        on(x, 0, 0, 0, 2, 0, 0, 0, 0, 1, 1, 0, 0, 0, 0, 99);
        due("both", x.has(7), 2);
        x.nights(1);
        due("one is back", x.has(7), 1);
    }

    private static void letterBehindTheName() {
        Hand.at("promise 7: letter k (0 .. 5); 0 behind it");
        WildHunt x = Hand.over(TWO + "bell a at 0 0 rope 1;bell zyxwvu at 0 0 rope 1;walker abcde from 0 0 to 0 0 does 0;");
        int[][] due = {{1, 0, 0, 0, 0, 0}, {26, 25, 24, 23, 22, 21}, {1, 2, 3, 4, 5, 0}};
        for (int k = 0; k < 6; k++) {
            due("bell 0, " + k, x.letter(0, 0, k), due[0][k]);
            due("bell 1, " + k, x.letter(0, 1, k), due[1][k]);
            due("walker 0, " + k, x.letter(1, 0, k), due[2][k]);
        }
    }

    private static void letterNoneSuch() {
        Hand.at("promise 7: NONE when there is none such");
        WildHunt x = Hand.over(FULL);
        Hand.within("kind", 0, 1, k -> x.letter(k, 0, 0));
        Hand.within("bell", 0, 1, k -> x.letter(0, k, 0));
        Hand.within("walker", 0, 1, k -> x.letter(1, k, 0));
        Hand.within("letter of a BELL", 0, 5, k -> x.letter(0, 1, k));
        Hand.within("letter of a WALKER", 0, 5, k -> x.letter(1, 1, k));
        WildHunt y = Hand.over(TWO);
        due("no BELLS", y.letter(0, 0, 0), NONE);
        due("no WALKERS", y.letter(1, 0, 0), NONE);
        WildHunt z = Hand.over(TWO + "walker a from 0 0 to 0 0 does 0;");
        due("no BELL, but a WALKER", z.letter(0, 0, 0), NONE);
    }

    private static void cellNoneSuch() {
        Hand.at("promise 8: NONE when there is none such, or for others");
        WildHunt x = Hand.over(FULL);
        for (int what = 0; what <= 1; what++) {
            int w = what;
            Hand.within("column", 0, 3, k -> x.cell(k, 0, w));
            Hand.within("row", 0, 2, k -> x.cell(0, k, w));
        }
        Hand.within("what", 0, 2, k -> x.cell(0, 0, k));
        Hand.noneFarOff("column, first HOUR", k -> x.cell(k, 0, 2));
        Hand.noneFarOff("row, first HOUR", k -> x.cell(0, k, 2));
        due("column 4", x.cell(4, 0, 2), NONE);
        due("row 3", x.cell(0, 3, 2), NONE);
        // 4 0 is no CELL, even if 4 CELLS from 0 0 on there is 0 1.
        due("beyond the row", x.cell(4, 0, 0), NONE);
        due("below the row", x.cell(-1, 1, 0), NONE);
        // A first HOUR of 0 and none at all: a CHAPEL.
        due("where it begins", x.cell(0, 0, 2), 0);
        due("a CHAPEL", x.cell(3, 2, 2), NONE);
    }

    private static void bellNoneSuch() {
        Hand.at("promise 9: NONE when there is none such, or for others");
        WildHunt x = Hand.over(FULL);
        for (int what = 0; what <= 4; what++) {
            int w = what;
            Hand.within("bell, what " + what, 0, 1, k -> x.bell(k, w));
        }
        Hand.within("what", 0, 4, k -> x.bell(1, k));
        due("no BELLS", Hand.over(TWO).bell(0, 0), NONE);
    }

    private static void bellIsRung() {
        Hand.at("promise 9: 3 whether it is RUNG");
        StringBuilder text = new StringBuilder(TWO);
        for (int k = 0; k < 5; k++) {
            text.append("bell b").append((char) ('a' + k)).append(" at 0 0 rope 1;");
        }
        WildHunt x = Hand.over(text.toString());
        for (int rung = 0; rung < 5; rung++) {
            due("ring", x.ring(rung, 1), true);
            for (int k = 0; k < 5; k++) {
                due("BELL " + k, x.bell(k, 3), k <= rung ? 1 : 0);
            }
        }
        due("no more", x.ring(2, 0), true);
        due("no more", x.bell(2, 3), 0);
        due("the one behind it", x.bell(3, 3), 1);
    }

    private static void walkerNoneSuch() {
        Hand.at("promise 10: NONE when there is none such, or for others");
        WildHunt x = Hand.over(FULL);
        for (int what = 0; what <= 7; what++) {
            int w = what;
            Hand.within("walker, what " + what, 0, 1, k -> x.walker(k, w));
        }
        Hand.within("what", 0, 7, k -> x.walker(1, k));
        due("no WALKERS", Hand.over(TWO).walker(0, 0), NONE);
    }

    private static void toldNoneSuch() {
        Hand.at("promise 11: NONE when there is none such, or for others");
        WildHunt x = Hand.over(FULL);
        due("nothing TOLD", x.told(0, 0), NONE);
        x.nights(1);
        for (int what = 0; what <= 3; what++) {
            int w = what;
            Hand.within("told, what " + what, 0, 1, k -> x.told(k, w));
        }
        Hand.within("what", 0, 3, k -> x.told(0, k));
    }

    // ---- this night

    private static void huntNoneSuch() {
        Hand.at("promise 12: NONE when there is none such, without a land, or for others");
        WildHunt x = Hand.over(FULL);
        Hand.within("hour, column", 0, 11, k -> x.hunt(k, 0));
        Hand.within("hour, row", 0, 11, k -> x.hunt(k, 1));
        Hand.within("what", 0, 1, k -> x.hunt(11, k));
    }

    private static void meetsNoneSuch() {
        Hand.at("promise 13: NONE when he does not, or there is none such");
        WildHunt x = Hand.over(FULL);
        Hand.within("walker", 0, 1, x::meets);
        due("no WALKERS", Hand.over(TWO).meets(0), NONE);
        due("he does not", Hand.over(TWO + "rides 0;walker a from 1 1 to 1 1 does 2;").meets(0), NONE);
    }

    private static void safeNoneSuch() {
        Hand.at("promise 14: NONE when in none, or there is none such");
        WildHunt x = Hand.over(FULL);
        Hand.within("walker", 0, 1, x::safe);
        due("no WALKERS", Hand.over(TWO).safe(0), NONE);
        due("in none", Hand.over(TWO + "rides 0;walker a from 1 1 to 0 0 does 2;").safe(0), NONE);
    }

    // ---- ahead

    private static void laterCanNotBe() {
        Hand.at("promise 17: behind n NIGHTS AHEAD (0 .. 60); NONE when n can't be, without a land, or for others");
        WildHunt x = midway();
        String before = Hand.state(x);
        for (int what = 0; what <= 3; what++) {
            int w = what;
            Hand.within("n, what " + what, 0, 60, k -> x.later(k, w));
        }
        Hand.within("what", 0, 3, k -> x.later(60, k));
        Hand.within("what of 0 NIGHTS", 0, 3, k -> x.later(0, k));
        due("all stays", Hand.state(x).equals(before), true);
        // 0 NIGHTS: what is now.
        due("meetings", x.later(0, 0), 0);
        due("gone", x.later(0, 1), 1);
        due("purses", x.later(0, 2), 21);
        due("kept", x.later(0, 3), 0);
    }

    private static void laterIsAsNights() {
        Hand.at("promise 17: 0 how many meetings in them, 1 WALKERS who are GONE, 2 what is in all purses, 3 KEPT in them");
        for (int n : new int[] {1, 2, 3, 4, 59, 60}) {
            WildHunt x = midway();
            int meetings = x.later(n, 0);
            int gone = x.later(n, 1);
            int purses = x.later(n, 2);
            int kept = x.later(n, 3);
            // Each NIGHT by itself, for the rows that are TOLD.
            int all = 0;
            int keptAll = 0;
            for (int night = 0; night < n; night++) {
                int before = x.has(9);
                int met = x.nights(1);
                all += met;
                for (int k = 0; k < met; k++) {
                    keptAll += x.told(x.has(9) - 1 - k, 3);
                }
                due("rows TOLD", x.has(9), Math.min(40, before + met));
            }
            due("meetings of " + n, meetings, all);
            due("gone behind " + n, gone, x.has(7));
            due("purses behind " + n, purses, x.has(8));
            due("kept in " + n, kept, keptAll);
        }
        // b was KEPT in NIGHT 0 for 3 NIGHTS: he is met again in NIGHT 4, the third one from NIGHT 2 on.
        WildHunt y = midway();
        due("kept in two", y.later(2, 3), 0);
        due("kept in three", y.later(3, 3), 1);
    }

    private static void chapelCanNotBe() {
        Hand.at("promise 18: n NIGHTS AHEAD (1 .. 20); NONE without, when n can't be, without a land, or for others");
        WildHunt x = midway();
        String before = Hand.state(x);
        for (int what = 0; what <= 2; what++) {
            int w = what;
            Hand.within("n, what " + what, 1, 20, k -> x.chapel(k, w));
        }
        Hand.within("what", 0, 2, k -> x.chapel(20, k));
        due("all stays", Hand.state(x).equals(before), true);
        due("without one", Hand.over(TWO).chapel(1, 0), NONE);
        due("without one", Hand.over(TWO).chapel(1, 2), NONE);
    }

    private static void firstNoneSuch() {
        Hand.at("promise 19: NONE when he does not, or there is none such");
        WildHunt x = midway();
        String before = Hand.state(x);
        Hand.within("walker", 0, 1, x::first);
        due("all stays", Hand.state(x).equals(before), true);
        due("no WALKERS", Hand.over(TWO).first(0), NONE);
        due("he does not", Hand.over(TWO + "rides 0;walker a from 1 1 to 1 1 does 2;").first(0), NONE);
    }

    private static void firstWithin60() {
        Hand.at("promise 19: in how many NIGHTS AHEAD (0 .. 60) (1: in this one)");
        String text = TWO + "walker a from 1 0 to 1 0 does 2;rides night/";
        due("in this one", Hand.over(TWO + "walker a from 1 0 to 1 0 does 2;").first(0), 1);
        due("in the next", Hand.over(text + "1*3;").first(0), 2);
        due("in the 60th", Hand.over(text + "59*3;").first(0), 60);
        due("in the 61st", Hand.over(text + "60*3;").first(0), NONE);
        WildHunt x = Hand.over(text + "60*3;");
        x.nights(1);
        due("one NIGHT later the 60th", x.first(0), 60);
    }

    // ---- who saw it

    private static void seeOneToTwelve() {
        Hand.at("promise 20: 1 to 12 rows of three bytes");
        WildHunt x = Hand.over(FULL);
        for (int rows = 1; rows <= 12; rows++) {
            due(rows + " rows", see(x, new int[3 * rows]), rows);
            due("has", x.has(10), rows);
        }
        due("one again", see(x, 11, 3, 1), 1);
        due("has", x.has(10), 1);
    }

    private static void seeNoneSuch() {
        Hand.at("promise 20: NONE, refused (1), all staying, when it is none such, or without a land");
        int[][] wrong = {{}, {0}, {0, 0}, {0, 0, 0, 0}, {0, 0, 0, 0, 0}, new int[35], new int[37], new int[39], new int[1600], {12, 0, 0}, {0, 4, 0},
            {0, 0, 3}, {255, 0, 0}, {128, 0, 0}, {0, 255, 0}, {0, 128, 0}, {0, 0, 255}, {0, 0, 128}, {0, 0, 0, 12, 0, 0}, {0, 0, 0, 0, 4, 0},
            {0, 0, 0, 0, 0, 3}, {11, 3, 1, 11, 3, 1, 11, 4, 1}};
        for (int[] bytes : wrong) {
            WildHunt x = midway();
            Hand.refuses("see() of " + java.util.Arrays.toString(bytes), x, TEXT, NONE, () -> see(x, bytes));
            due("the tape goes", feed(x), 20);
        }
        int[] last = new int[36];
        last[33] = 12;
        WildHunt y = midway();
        Hand.refuses("the twelfth row", y, TEXT, NONE, () -> see(y, last));
        WildHunt z = new WildHunt();
        Hand.refuses("without a land", z, TEXT, NONE, () -> see(z, 0, 0, 0));
        due("the tape goes", feed(z), 20);
        // A CHAPEL is a CELL: it can be told, but from none the HUNT is there.
        due("a CHAPEL", see(y, 0, 3, 2), 1);
        due("from none", y.began(0), 0);
    }

    private static void beganOthers() {
        Hand.at("promise 21: all but CHAPELS, if nothing is SEEN; NONE of the first, the last without; NONE without a land, or for others");
        WildHunt x = Hand.over(FULL);
        due("all but CHAPELS", x.began(0), 11);
        due("the first", x.began(1), 0);
        due("the last: 2 2", x.began(2), 10);
        Hand.within("what", 0, 2, x::began);
        see(x, 0, 0, 0, 0, 1, 0);
        due("none", x.began(0), 0);
        due("the first", x.began(1), NONE);
        due("the last", x.began(2), NONE);
        Hand.noneFarOff("what", x::began);
        see(x, 0, 3, 1);
        due("columns times row and column", x.began(1), 7);
        due("columns times row and column", x.began(2), 7);
        WildHunt y = Hand.over("land 7 by 7 hunt 0 0;");
        due("49", y.began(0), 49);
        due("the last", y.began(2), 48);
        // Where it begins alone is no CHAPEL.
        WildHunt z = Hand.over(TWO + "chapel 0 1;chapel 1 0;chapel 1 1;");
        due("one", z.began(0), 1);
        due("the last is the first", z.began(2), 0);
    }

    private static void tellsOthers() {
        Hand.at("promise 22: NONE without a CELL, without a land, or for others");
        WildHunt x = midway();
        Hand.within("what", 0, 1, x::tells);
        see(x, 0, 0, 0, 0, 1, 0);
        due("without a CELL", x.tells(0), NONE);
        due("without a CELL", x.tells(1), NONE);
        Hand.noneFarOff("what", x::tells);
    }

    // ---- acts

    private static void ringRefused() {
        Hand.at("promise 23: false, refused (2), when there is none such, it is so already, or for others");
        for (int bell : new int[] {Integer.MIN_VALUE, -32, -1, 2, 3, 5, 31, 32, 33, Integer.MAX_VALUE}) {
            WildHunt x = midway();
            Hand.refuses("none such, " + bell, x, SMALL_ACT, () -> x.ring(bell, 1));
            Hand.refuses("none such, " + bell, x, SMALL_ACT, () -> x.ring(bell, 0));
        }
        for (int on : new int[] {Integer.MIN_VALUE, -1, 2, 3, 255, 256, Integer.MAX_VALUE}) {
            WildHunt x = midway();
            Hand.refuses("others, " + on, x, SMALL_ACT, () -> x.ring(0, on));
            Hand.refuses("others, " + on, x, SMALL_ACT, () -> x.ring(1, on));
        }
        WildHunt x = midway();
        Hand.refuses("so already: not RUNG", x, SMALL_ACT, () -> x.ring(0, 0));
        Hand.refuses("so already: RUNG", x, SMALL_ACT, () -> x.ring(1, 1));
        due("ring", x.ring(0, 1), true);
        Hand.refuses("so already: RUNG", x, SMALL_ACT, () -> x.ring(0, 1));
        WildHunt y = Hand.over(TWO);
        Hand.refuses("no BELLS", y, SMALL_ACT, () -> y.ring(0, 1));
        WildHunt z = new WildHunt();
        Hand.refuses("without a land", z, SMALL_ACT, () -> z.ring(0, 1));
    }

    private static void doesRefused() {
        Hand.at("promise 24: false, refused (2), when there are none such, or he has it already");
        for (int walker : new int[] {Integer.MIN_VALUE, -1, 2, 3, 6, 7, Integer.MAX_VALUE}) {
            WildHunt x = midway();
            Hand.refuses("none such, " + walker, x, SMALL_ACT, () -> x.does(walker, 1));
        }
        for (int manner : new int[] {Integer.MIN_VALUE, -1, 4, 5, 256, Integer.MAX_VALUE}) {
            WildHunt x = midway();
            Hand.refuses("no MANNER, " + manner, x, SMALL_ACT, () -> x.does(0, manner));
        }
        for (int manner = 0; manner <= 3; manner++) {
            int m = manner;
            WildHunt x = midway();
            due("does " + m, x.does(0, m), m != 2);
            due("manner", x.walker(0, 4), m);
            Hand.refuses("already " + m, x, SMALL_ACT, () -> x.does(0, m));
        }
        WildHunt y = Hand.over(TWO);
        Hand.refuses("no WALKERS", y, SMALL_ACT, () -> y.does(0, 1));
        WildHunt z = new WildHunt();
        Hand.refuses("without a land", z, SMALL_ACT, () -> z.does(0, 1));
    }

    private static void nightsRefused() {
        Hand.at("promise 25: n NIGHTS (1 .. 100); NONE, refused (3), when it can't be, or without a land");
        for (int n : new int[] {Integer.MIN_VALUE, -100, -1, 0, 101, 102, 999, Integer.MAX_VALUE}) {
            WildHunt x = midway();
            Hand.refuses("nights " + n, x, NIGHTS, NONE, () -> x.nights(n));
        }
        WildHunt x = Hand.over(TWO + "walker a from 0 0 to 0 0 does 2;");
        due("1", x.nights(1), 1);
        due("100", x.nights(100), 100);
        due("NIGHT", x.has(5), 101);
        due("acts", x.has(11), 2);
        due("none is met", Hand.over(TWO).nights(100), 0);
        WildHunt z = new WildHunt();
        Hand.refuses("without a land", z, NIGHTS, NONE, () -> z.nights(1));
    }

    private static void chanceRefused() {
        Hand.at("promise 26: n NIGHTS by the seed (1 .. 100); NONE, refused (3), when it can't be, or without a land");
        for (int n : new int[] {Integer.MIN_VALUE, -100, -1, 0, 101, 102, 999, Integer.MAX_VALUE}) {
            WildHunt x = midway();
            Hand.refuses("chance " + n, x, NIGHTS, NONE, () -> x.chance(n));
            WildHunt y = midway();
            due("no draws", x.chance(40), y.chance(40));
        }
        WildHunt x = Hand.over(TWO + "storm 100;");
        due("1", x.chance(1), 1);
        due("100", x.chance(100), 100);
        due("NIGHT", x.has(5), 101);
        WildHunt z = new WildHunt();
        Hand.refuses("without a land", z, NIGHTS, NONE, () -> z.chance(1));
        Hand.land(z, TWO + "storm 19;");
        due("no draws without a land: 18 is the first", z.chance(1), 1);
    }

    private static void chanceIsOneAct() {
        Hand.at("promise 26: one ACT");
        WildHunt x = Hand.over(FULL);
        x.chance(100);
        due("acts", x.has(11), 1);
        due("undo", x.undo(), true);
        due("NIGHT", x.has(5), 0);
        due("told", x.has(9), 0);
        due("met", x.walker(0, 5), 0);
        due("acts", x.has(11), 0);
    }

    private static void undoRefused() {
        Hand.at("promise 27: false, refused (4), when none can be");
        WildHunt x = new WildHunt();
        Hand.refuses("without a land", x, UNDO, x::undo);
        Hand.land(x, FULL);
        Hand.refuses("ahead of any act", x, UNDO, x::undo);
        x.ring(0, 1);
        due("one", x.undo(), true);
        Hand.refuses("no more", x, UNDO, x::undo);
        // What is refused, asked or SEEN is no act.
        x.ring(0, 0);
        x.nights(0);
        x.seed(5);
        see(x, 0, 0, 0);
        Hand.ask(x, "total 1");
        x.image();
        x.later(5, 0);
        Hand.refuses("no acts", x, UNDO, x::undo);
        x.nights(1);
        on(x, 0, 0, 0, 2, 0, 0, 0, 0, 0, 1, 0, 0, 0, 0, 0);
        Hand.refuses("behind an image", x, UNDO, x::undo);
    }

    private static void undoEachAct() {
        Hand.at("promise 27: the latest ACT is undone (the seed stays)");
        WildHunt x = midway();
        String first = Hand.state(x);
        x.ring(0, 1);
        String second = Hand.state(x);
        x.does(1, 3);
        String third = Hand.state(x);
        x.nights(30);
        String fourth = Hand.state(x);
        x.chance(30);
        due("chance", x.undo(), true);
        due("as before", Hand.state(x).equals(fourth), true);
        due("nights", x.undo(), true);
        due("as before", Hand.state(x).equals(third), true);
        due("does", x.undo(), true);
        due("as before", Hand.state(x).equals(second), true);
        due("ring", x.undo(), true);
        due("as before", Hand.state(x).equals(first), true);
        // The seed stays: 30 draws are drawn.
        WildHunt y = midway();
        y.chance(30);
        due("the seed stays", x.chance(50), y.chance(50));
    }

    private static void seedBelowZero() {
        Hand.at("promise 28: false, refused (5), when it is below 0");
        WildHunt x = midway();
        x.seed(0);
        Hand.refuses("-1", x, SEED, () -> x.seed(-1));
        Hand.refuses("the least", x, SEED, () -> x.seed(Integer.MIN_VALUE));
        // The seed is still 0, which draws 92.
        Hand.land(x, TWO + "storm 93;");
        due("the seed stays", x.chance(1), 1);
        x.seed(0);
        Hand.land(x, TWO + "storm 92;");
        due("the seed stays", x.chance(1), 0);
        due("0", x.seed(0), true);
        due("the greatest", x.seed(Integer.MAX_VALUE), true);
        Hand.land(x, TWO + "storm 99;");
        due("draws 99", x.chance(1), 0);
        due("no act", x.has(11), 1);
    }

    private static void seedAtFirst() {
        Hand.at("promise 28: it is 1 at first");
        // 1 draws 18.
        due("not below 18", Hand.over(TWO + "storm 18;").chance(1), 0);
        due("below 19", Hand.over(TWO + "storm 19;").chance(1), 1);
        WildHunt x = new WildHunt();
        due("without a land", x.seed(0), true);
        Hand.land(x, TWO + "storm 92;");
        due("92 is not below 92", x.chance(1), 0);
    }

    // ---- questions

    private static void askHoldsForNone() {
        Hand.at("promise 29: NONE of first, last, when its TEST holds for none");
        WildHunt x = midway();
        due("first", Hand.ask(x, "first not all"), NONE);
        due("last", Hand.ask(x, "last not all"), NONE);
        due("often", Hand.ask(x, "often not all"), 0);
        due("first of all", Hand.ask(x, "first all"), 0);
        due("last of all", Hand.ask(x, "last all"), 1);
        due("the last alone", Hand.ask(x, "first number=1"), 1);
        due("the first alone", Hand.ask(x, "last number=0"), 0);
        due("a SUM of -1 is no NONE", Hand.ask(x, "least 0-1"), -1);
        due("no FAULT", x.fault(0), 0);
    }

    private static void askWithAFault() {
        Hand.at("promise 29: NOTHING with a FAULT");
        for (String text : new String[] {"", "?", "first", "total 1;", "total (((((((1", "total 12345"}) {
            WildHunt x = midway();
            Hand.refuses("ask() of " + text, x, NOT_COUNTED, NOTHING, () -> Hand.ask(x, text));
            due("the tape goes", feed(x), 20);
        }
        // The least that a QUESTION can answer is far above NOTHING.
        StringBuilder six = new StringBuilder(TWO);
        for (int k = 0; k < 6; k++) {
            six.append("walker w").append((char) ('a' + k)).append(" from 0 0 to 0 0 does 0;");
        }
        due("the least total", Hand.ask(Hand.over(six.toString()), "total 0-9999*9999"), -6000000);
        due("the greatest total", Hand.ask(Hand.over(six.toString()), "total 9999*9999"), 6000000);
    }

    private static void askWithoutALand() {
        Hand.at("promise 29: NOTHING, doing nothing else, without a land");
        WildHunt x = new WildHunt();
        Hand.land(x, "land 2 by 1");
        Hand.refuses("ask", x, NOT_COUNTED, NOTHING, () -> Hand.ask(x, "often all"));
        due("the FAULT of land() stays", x.fault(0), 2);
        due("its place stays", x.fault(1), 10);
        due("the tape goes", feed(x), 20);
        x.end(0);
        Hand.refuses("ask wrongly", x, NOT_COUNTED, NOTHING, () -> Hand.ask(x, "?"));
        due("the FAULT of land() stays", x.fault(0), 2);
        Hand.refuses("ask by an empty tape", x, NOT_COUNTED, NOTHING, x::ask);
    }

    // ---- images

    private static void imageSizes() {
        Hand.at("promise 30: how many bytes");
        due("without a land", new WildHunt().image(), 4);
        StringBuilder text = new StringBuilder(TWO);
        due("no WALKERS", Hand.over(text.toString()).image(), 4);
        for (int k = 1; k <= 6; k++) {
            text.append("walker w").append((char) ('a' + k)).append(" from 0 0 to 0 0 does 0;");
            WildHunt x = Hand.over(text.toString());
            due(k + " WALKERS", x.image(), 4 + 6 * k);
            due("the last byte is there", x.octet(3 + 6 * k) != NONE, true);
            due("none behind it", x.octet(4 + 6 * k), NONE);
        }
        // Two bytes, the higher first, at their greatest.
        WildHunt x = Hand.over(TWO + "walker a from 0 0 to 0 0 does 3;bell b at 0 0 rope 1;bell c at 0 0 rope 1;");
        int[] bytes = {3, 231, 3, 3, 39, 15, 39, 15, 99};
        due("on", on(x, bytes), true);
        due("image", x.image(), 10);
        int[] all = Hand.checked(bytes);
        for (int k = 0; k < 10; k++) {
            due("octet " + k, x.octet(k), all[k]);
        }
        due("no act", x.has(11), 0);
    }

    private static void octetNoneSuch() {
        Hand.at("promise 31: byte k of the latest image(); NONE when there is none such");
        WildHunt x = Hand.over(FULL);
        due("ahead of any", x.octet(0), NONE);
        due("image", x.image(), 16);
        Hand.within("octet", 0, 15, x::octet);
        x.nights(1);
        due("the latest, not what is now", x.octet(1), 0);
        Hand.land(x, TWO);
        due("behind a new LAND", x.octet(15) != NONE, true);
        due("a shorter one", x.image(), 4);
        due("no byte of the longer one", x.octet(4), NONE);
        due("no byte of the longer one", x.octet(15), NONE);
    }

    private static void onAtTheMost() {
        Hand.at("promise 32: true, all is as it tells, nothing is TOLD or can be undone (NIGHT 999, MET 9999, purses 9999, GONE 99 at most)");
        WildHunt x = midway();
        due("on", on(x, 3, 231, 3, 3, 39, 15, 39, 15, 99, 0, 39, 15, 39, 15, 99), true);
        int[] due = {999, 2, 2, 19998, 0, 1, 0};
        for (int k = 0; k < 7; k++) {
            due("has " + (5 + k), x.has(5 + k), due[k]);
        }
        for (int w = 0; w < 2; w++) {
            due("manner", x.walker(w, 4), w == 0 ? 3 : 0);
            due("met", x.walker(w, 5), 9999);
            due("purse", x.walker(w, 6), 9999);
            due("gone", x.walker(w, 7), 99);
        }
        due("nothing TOLD", x.told(0, 0), NONE);
        due("the least", on(x, 0, 0, 0, 0, 0, 0, 0, 0, 0, 0, 0, 0, 0, 0, 0), true);
        for (int k = 5; k < 10; k++) {
            due("has " + k, x.has(k), 0);
        }
        due("the tape goes", feed(x), 20);
        due("status 5", x.status(5), 0);
    }

    private static void onBeyond() {
        Hand.at("promise 32: false, refused (5), when it is none; BELLS, MANNERS that there are");
        int[] good = {3, 231, 3, 3, 39, 15, 39, 15, 99, 3, 39, 15, 39, 15, 99};
        // Each byte that would be beyond, in the first and in the last WALKER.
        int[][] wrong = {{1, 232}, {0, 4}, {0, 255}, {2, 4}, {2, 8}, {2, 255}, {3, 4}, {3, 255}, {4, 40}, {5, 16}, {6, 40}, {7, 16}, {8, 100}, {8, 255},
            {9, 4}, {10, 40}, {11, 16}, {12, 40}, {13, 16}, {14, 100}};
        for (int[] change : wrong) {
            int[] bytes = good.clone();
            bytes[change[0]] = change[1];
            WildHunt x = midway();
            Hand.refuses("byte " + change[0] + " of " + change[1], x, SEED, () -> on(x, bytes));
            due("the tape goes", feed(x), 20);
        }
        // Without BELLS none can be RUNG; of five all can.
        WildHunt none = Hand.over(TWO);
        Hand.refuses("a BELL where there is none", none, SEED, () -> on(none, 0, 0, 1));
        due("none", on(none, 0, 0, 0), true);
        StringBuilder text = new StringBuilder(TWO);
        for (int k = 0; k < 5; k++) {
            text.append("bell b").append((char) ('a' + k)).append(" at 0 0 rope 1;");
        }
        WildHunt five = Hand.over(text.toString());
        due("all five", on(five, 0, 0, 31), true);
        due("rung", five.has(6), 5);
        Hand.refuses("a sixth", five, SEED, () -> on(five, 0, 0, 32));
    }

    private static void onOfAnotherSize() {
        Hand.at("promise 32: false, refused (5), when it is none: too short, too long, empty");
        for (int size : new int[] {0, 1, 2, 3, 4, 9, 14, 16, 21, 100, 1599}) {
            WildHunt x = midway();
            Hand.refuses("of " + size + " bytes and one", x, SEED, () -> on(x, new int[size]));
        }
        WildHunt x = midway();
        Hand.refuses("empty", x, SEED, x::on);
        due("fifteen and one", on(x, new int[15]), true);
        // A LAND without WALKERS has four.
        WildHunt y = Hand.over(TWO);
        Hand.refuses("three bytes", y, SEED, () -> on(y, 0, 0));
        Hand.refuses("five bytes", y, SEED, () -> on(y, 0, 0, 0, 0));
        due("four bytes", on(y, 0, 7, 0), true);
        due("NIGHT", y.has(5), 7);
    }

    private static void onLastByte() {
        Hand.at("IV: last a byte: all ahead from 79 on, c = (3 c + it) mod 251");
        int[] bytes = Hand.checked(0, 5, 1, 2, 0, 1, 0, 2, 3, 1, 0, 0, 0, 0, 0);
        int last = bytes.length - 1;
        for (int b = 0; b < 256; b++) {
            int[] other = bytes.clone();
            other[last] = b;
            WildHunt x = Hand.over(FULL);
            Hand.put(x, other);
            due("a last byte of " + b, x.on(), b == bytes[last]);
        }
        // A byte of another worth, two that changed places.
        for (int k = 0; k < last; k++) {
            int[] other = bytes.clone();
            other[k] ^= 1;
            WildHunt x = midway();
            Hand.put(x, other);
            Hand.refuses("byte " + k + " changed", x, SEED, x::on);
        }
    }

    private static void onWithoutALand() {
        Hand.at("promise 32: false, refused (5), without a land, all staying");
        WildHunt x = new WildHunt();
        Hand.refuses("its own image", x, SEED, () -> on(x, 0, 0, 0));
        due("the tape goes", feed(x), 20);
        Hand.refuses("blanks", x, SEED, x::on);
        Hand.refuses("empty", x, SEED, x::on);
    }

    // ---- refusals

    private static void statusOthers() {
        Hand.at("promise 33: NONE for others");
        Hand.within("status", 0, 5, new WildHunt()::status);
        Hand.within("status", 0, 5, midway()::status);
    }

    private static void statusByKinds() {
        Hand.at("promise 33: 0 feed(), end(); 1 land(), see(); 2 ring(), does(); 3 nights(), chance(); 4 undo(); 5 seed(), on()");
        WildHunt x = midway();
        for (int k = 0; k < 80; k++) {
            feed(x);
        }
        Hand.refuses("feed", x, TAPE, NONE, () -> feed(x));
        Hand.refuses("end", x, TAPE, () -> x.end(1601));
        x.end(0);
        Hand.refuses("land", x, TEXT, NONE, x::land);
        Hand.refuses("see", x, TEXT, NONE, x::see);
        WildHunt y = midway();
        Hand.refuses("ring", y, SMALL_ACT, () -> y.ring(9, 1));
        Hand.refuses("does", y, SMALL_ACT, () -> y.does(9, 1));
        Hand.refuses("nights", y, NIGHTS, NONE, () -> y.nights(0));
        Hand.refuses("chance", y, NIGHTS, NONE, () -> y.chance(0));
        WildHunt u = midway();
        Hand.refuses("seed", u, SEED, () -> u.seed(-1));
        Hand.refuses("on", u, SEED, u::on);
        WildHunt z = Hand.over(FULL);
        Hand.refuses("undo", z, UNDO, z::undo);
        // What only answers NONE is not refused.
        Hand.refuses("later", z, NOT_COUNTED, NONE, () -> z.later(61, 0));
        Hand.refuses("chapel", z, NOT_COUNTED, NONE, () -> z.chapel(21, 0));
        Hand.refuses("meets", z, NOT_COUNTED, NONE, () -> z.meets(9));
        Hand.refuses("octet", z, NOT_COUNTED, NONE, () -> z.octet(0));
        // What is done is not counted either, and a new LAND takes no count back.
        z.ring(0, 1);
        z.undo();
        z.seed(3);
        Hand.land(z, TWO);
        int[] due = {0, 0, 0, 0, 1, 0};
        for (int k = 0; k < 6; k++) {
            due("status " + k, z.status(k), due[k]);
        }
    }

    private static void anyNumbers() {
        Hand.at("any numbers in any state: every call ends and answers");
        String[] lands = {"", TWO, FULL};
        for (String land : lands) {
            for (int a : EXTREMES) {
                WildHunt x = new WildHunt();
                Hand.put(x, land);
                x.land();
                for (int b : EXTREMES) {
                    x.cell(a, b, 0);
                    x.cell(b, 1, a);
                    x.letter(a, b, 0);
                    x.letter(1, a, b);
                    x.bell(a, b);
                    x.walker(a, b);
                    x.told(a, b);
                    x.hunt(a, b);
                    x.later(a, b);
                    x.chapel(a, b);
                    x.ring(a, b);
                    x.does(a, b);
                    x.feed(a, b, a, b, a);
                    x.ask();
                    x.feed(b, b, a, a, b);
                    x.land();
                    x.feed(b, a, a, b, a);
                    x.see();
                    x.feed(a, a, b, b, a);
                    x.on();
                }
                x.nights(a);
                x.chance(a);
                x.seed(a);
                x.chance(2);
                x.end(a);
                due("columns stay", x.has(0), land.isEmpty() ? 0 : land.equals(TWO) ? 2 : 4);
            }
        }
    }
}
