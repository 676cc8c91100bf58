/** Promise by promise: ordinary inputs, the edges that the document names, wrong inputs; answers worked out by hand. */
public final class PromisesTest {
    private static final int NONE = -1;
    private static final long NOTHING = -1000000000000000L;
    /** The HUNT: 00 10 11, then 01 and 11 in turn (01 in odd HOURS from 3 on). */
    private static final String SMALL = "land 2 by 2 hunt 0 0;";
    private static final String HEAD = "land 3 by 3 hunt 0 0;";
    /** The HUNT goes right along row 1 of 7 columns, then way 3 fails: see each test. */
    private static final String WIDE = "land 7 by 3 hunt 0 1;";

    public static void main(String[] args) {
        newObject();
        feed();
        end();
        land();
        landStarts();
        landLimits();
        faultsOfLand();
        faultsOfSums();
        faultsOfQuestions();
        faultKept();
        has();
        letter();
        cell();
        bell();
        walker();
        told();
        hunt();
        rides();
        meets();
        safe();
        peal();
        rest();
        later();
        chapel();
        first();
        see();
        began();
        tells();
        ring();
        does();
        nights();
        pays();
        keeps();
        lastNight();
        chance();
        undo();
        seed();
        ask();
        arithmetic();
        image();
        on();
        status();
        Hand.end();
    }

    private static void due(String call, long got, long want) {
        Hand.due(call, got, want);
    }

    private static void due(String call, boolean got, boolean want) {
        Hand.due(call, got, want);
    }

    private static String times(int n, String text) {
        return text.repeat(n);
    }

    // ---- 1 to 5

    private static void newObject() {
        Hand.at("promise 1");
        WildHunt x = new WildHunt();
        for (int k = 0; k < 12; k++) {
            due("has " + k, x.has(k), 0);
        }
        due("fault 0", x.fault(0), 0);
        due("fault 1", x.fault(1), NONE);
        due("hunt", x.hunt(0, 0), NONE);
        due("peal", x.peal(), NONE);
        due("rest", x.rest(), NONE);
        due("later", x.later(0, 0), NONE);
        due("began", x.began(0), NONE);
        due("tells", x.tells(0), NONE);
        due("walker", x.walker(0, 0), NONE);
        due("bell", x.bell(0, 0), NONE);
        due("cell", x.cell(0, 0, 0), NONE);
        due("octet", x.octet(0), NONE);
        due("undo", x.undo(), false);
        due("NONE", WildHunt.NONE, -1);
        due("NOTHING", WildHunt.NOTHING, NOTHING);
    }

    private static void feed() {
        Hand.at("promise 2");
        WildHunt x = new WildHunt();
        for (int k = 1; k <= 80; k++) {
            due("feed " + k, x.feed(0x20202020, 0x20202020, 0x20202020, 0x20202020, 0x20202020), 20 * k);
        }
        due("feed 81", x.feed(0, 0, 0, 0, 0), NONE);
        due("status 0", x.status(0), 1);
        due("land", x.land(), NONE);
        due("fault at 1600", x.fault(1), 1600);
        due("feed again", x.feed(0x6c616e64, 0x20322062, 0x79203220, 0x68756e74, 0x20302031), 20);
        due("feed behind", x.feed(0x3b202020, 0x20202020, 0x20202020, 0x20202020, 0x20202020), 40);
        due("land", x.land(), 1);
        due("row of begin", x.hunt(0, 1), 1);
        WildHunt y = new WildHunt();
        for (int k = 0; k < 80; k++) {
            y.feed(0, 0, 0, 0, 0);
        }
        y.end(1581);
        due("1601 would be", y.feed(0, 0, 0, 0, 0), NONE);
        y.end(1580);
        due("1600", y.feed(0, 0, 0, 0, 0), 1600);
        x.feed(0x80818283, -1, 0, 0, 0);
        due("bytes above 127", x.ask(), NOTHING);
        due("fault", x.fault(1), 0);
    }

    private static void end() {
        Hand.at("promise 3");
        WildHunt x = new WildHunt();
        due("end 0 of 0", x.end(0), true);
        due("end 1 of 0", x.end(1), false);
        due("end -1", x.end(-1), false);
        x.feed(0, 0, 0, 0, 0);
        due("end 20 of 20", x.end(20), true);
        due("end 21 of 20", x.end(21), false);
        due("end 3", x.end(3), true);
        due("end 4 of 3", x.end(4), false);
        due("end min", x.end(Integer.MIN_VALUE), false);
        due("status 0", x.status(0), 5);
        due("feed behind 3", x.feed(0, 0, 0, 0, 0), 23);
    }

    private static void land() {
        Hand.at("promise 4");
        WildHunt x = new WildHunt();
        due("one", Hand.land(x, SMALL), 1);
        due("blanks", Hand.land(x, "\n land  2\nby 2 hunt 0 0 ; year 3 ;\n\n"), 2);
        due("tight", Hand.land(x, "land 2 by 2 hunt 0 0;rides(hour+1)*2;keeps[all]and not all;"), 3);
        due("none", Hand.land(x, ""), NONE);
        due("tape goes", x.feed(0, 0, 0, 0, 0), 20);
        x.end(0);
        due("all stays", x.has(0), 2);
        due("status 1", x.status(1), 1);
        due("digits", Hand.land(x, "land 0002 by 0003 hunt 0001 0002;"), 1);
        due("rows", x.has(1), 3);
        due("hunt column", x.hunt(0, 0), 1);
        due("hunt row", x.hunt(0, 1), 2);
        due("names by question words", Hand.land(x, SMALL + "bell first at 0 0 rope 0;walker least from 0 0 to 0 0 does 0;"), 3);
    }

    private static void landStarts() {
        Hand.at("promise 4, at first");
        String text = SMALL + "bell b at 0 0 rope 1;walker a from 1 0 to 1 0 does 2;pays 5;";
        WildHunt x = Hand.over(text + "storm 50;");
        x.seed(7);
        x.chance(4);
        x.nights(3);
        x.ring(0, 1);
        x.does(0, 3);
        Hand.put(x, 0, 0, 0);
        x.see();
        int storms = x.chance(20);
        due("fault stays", Hand.land(x, SMALL + "x;"), NONE);
        due("night", x.has(5), 27);
        due("acts", x.has(11), 5);
        due("again", Hand.land(x, text + "storm 50;"), 5);
        for (int k = 5; k < 12; k++) {
            due("has " + k, x.has(k), 0);
        }
        due("manner", x.walker(0, 4), 2);
        due("met", x.walker(0, 5), 0);
        due("undo", x.undo(), false);
        // The seed went on through the new LAND: with the old one the same draws would come again.
        WildHunt y = Hand.over(text + "storm 50;");
        y.seed(7);
        y.chance(4);
        due("the other's storms", y.chance(20), storms);
        due("next draws", x.chance(30), y.chance(30));
    }

    private static void landLimits() {
        Hand.at("promise 4, limits");
        WildHunt x = new WildHunt();
        due("80 statements", Hand.land(x, SMALL + times(79, "year 1;")), 80);
        due("all kinds full", Hand.land(x, "land 7 by 7 hunt 6 6;"
            + "chapel 0 0;chapel 1 0;chapel 2 0;chapel 3 0;chapel 4 0;chapel 5 0;chapel 6 0;chapel 0 1;chapel 1 1;chapel 2 1;"
            + "bell a at 0 0 rope 0;bell b at 6 6 rope 99;bell c at 1 1 rope 1;bell d at 1 1 rope 1;bell e at 1 1 rope 1;"
            + "walker f from 0 0 to 6 6 does 0;walker g from 0 0 to 0 0 does 1;walker h from 6 6 to 0 0 does 2;"
            + "walker i from 0 0 to 0 0 does 3;walker j from 0 0 to 0 0 does 0;walker abcdef from 0 0 to 0 0 does 0;"
            + "rides 0;pays 0;keeps all;year 99;harm 999;storm 100;year 1;harm 0;storm 0;"), 31);
        due("chapels", x.has(2), 10);
        due("bells", x.has(3), 5);
        due("walkers", x.has(4), 6);
    }

    private static void faulty(int kind, String marked) {
        Hand.faulty(kind, marked);
    }

    private static void faultsOfLand() {
        Hand.at("promise 5, FAULTS of a LAND");
        faulty(1, "^");
        faulty(1, "  \n ^");
        faulty(1, "^;");
        faulty(1, "^lan");
        faulty(1, "^lands 3 by 3 hunt 0 0;");
        faulty(1, "^Land 3 by 3 hunt 0 0;");
        faulty(1, "^year 3;");
        faulty(1, "land^");
        faulty(1, "land   ^");
        faulty(1, "land^3 by 3 hunt 0 0;");
        faulty(1, "land 3^by 3 hunt 0 0;");
        faulty(1, "land 3 by 3 hunt 0 0^");
        faulty(1, "land 3 by 3 hunt 0 0^x");
        faulty(1, "land 3 by 3 hunt 0 ^;");
        faulty(1, "land 3 ^at 3 hunt 0 0;");
        faulty(1, "land^\t3 by 3 hunt 0 0;");
        faulty(1, "land ^x by 3 hunt 0 0;");
        faulty(1, "land 0003^3 by 3 hunt 0 0;");
        faulty(1, "land 1234^5 by 3 hunt 0 0;");
        faulty(2, "land ^1 by 3 hunt 0 0;");
        faulty(2, "land ^8 by 3 hunt 0 0;");
        faulty(2, "land ^9999");
        faulty(2, "land 3 by ^1x");
        faulty(2, "land 3 by 3 hunt ^3 0;");
        faulty(2, "land 3 by 3 hunt 2 ^3;");
        faulty(1, HEAD + "^land 3 by 3 hunt 0 0;");
        faulty(1, HEAD + "^;");
        faulty(1, HEAD + " ^at");
        faulty(1, HEAD + "^hour;");
        faulty(1, HEAD + "^first;");
        faulty(1, HEAD + "^chapels 1 1;");
        faulty(1, HEAD + "^3;");
        faulty(1, HEAD + "year 3 ^year 4;");
        faulty(2, HEAD + "chapel ^3 1;");
        faulty(2, HEAD + "chapel 2 ^3;");
        faulty(2, HEAD + "chapel 0 ^0;");
        faulty(2, HEAD + "chapel 1 1;chapel 1  ^01;");
        faulty(1, HEAD + "chapel 1^,1;");
        faulty(1, HEAD + "bell ^at at 1 1 rope 1;");
        faulty(1, HEAD + "bell ^max at 1 1 rope 1;");
        faulty(1, HEAD + "bell ^number at 1 1 rope 1;");
        faulty(1, HEAD + "bell ^7 at 1 1 rope 1;");
        faulty(1, HEAD + "bell abcdef^g at 1 1 rope 1;");
        faulty(1, HEAD + "bell abcdef^ghij");
        faulty(1, HEAD + "bell ^Abc at 1 1 rope 1;");
        faulty(1, HEAD + "bell a^1 at 1 1 rope 1;");
        faulty(1, HEAD + "bell a ^from 1 1 rope 1;");
        faulty(2, HEAD + "bell a at ^3 1 rope 1;");
        faulty(2, HEAD + "bell a at 1 ^3 rope 1;");
        faulty(2, HEAD + "bell a at 1 1 rope ^100;");
        faulty(3, HEAD + "bell a at 1 1 rope 1;bell ^a at 1 1 rope 1;");
        faulty(3, HEAD + "bell a at 1 1 rope 1;walker ^a");
        faulty(3, HEAD + "walker abcdef from 0 0 to 1 1 does 1;bell ^abcdef at 0 0 rope 1;");
        faulty(1, HEAD + "walker abcdef from 0 0 to 1 1 does 1;bell abcdef^f at 0 0 rope 1;");
        faulty(2, HEAD + "walker a from ^3 0 to 1 1 does 1;");
        faulty(2, HEAD + "walker a from 0 ^3 to 1 1 does 1;");
        faulty(2, HEAD + "walker a from 0 0 to ^4 1 does 1;");
        faulty(2, HEAD + "walker a from 0 0 to 1 ^9 does 1;");
        faulty(2, HEAD + "walker a from 0 0 to 1 1 does ^4;");
        faulty(1, HEAD + "walker a from 0 0 ^does 1;");
        faulty(2, HEAD + "year ^0;");
        faulty(2, HEAD + "year ^100;");
        faulty(2, HEAD + "harm ^1000;");
        faulty(2, HEAD + "storm ^101;");
        faulty(5, HEAD + "rides 1;^rides 2;");
        faulty(5, HEAD + "pays 1;year 2;^pays");
        faulty(5, HEAD + "keeps all;^keeps x;");
        faulty(5, HEAD + "bell a at 0 0 rope 0;bell b at 0 0 rope 0;bell c at 0 0 rope 0;bell d at 0 0 rope 0;bell e at 0 0 rope 0; ^bell");
        faulty(5, "land 7 by 7 hunt 6 6;chapel 0 0;chapel 1 0;chapel 2 0;chapel 3 0;chapel 4 0;chapel 5 0;chapel 6 0;chapel 0 1;"
            + "chapel 1 1;chapel 2 1;^chapel 3 1;");
        faulty(5, HEAD + "walker a from 0 0 to 0 0 does 0;walker b from 0 0 to 0 0 does 0;walker c from 0 0 to 0 0 does 0;"
            + "walker d from 0 0 to 0 0 does 0;walker e from 0 0 to 0 0 does 0;walker f from 0 0 to 0 0 does 0;^walker a");
        faulty(5, HEAD + times(79, "harm 1;") + " ^harm 1;");
        faulty(5, HEAD + times(79, "harm 1;") + "^?");
        faulty(5, HEAD + times(79, "harm 1;") + "\n^;");
        faulty(1, HEAD + times(78, "harm 1;") + "harm 1^");
    }

    private static void faultsOfSums() {
        Hand.at("promise 5, FAULTS of SUMS and TESTS");
        faulty(1, HEAD + "rides ^;");
        faulty(1, HEAD + "rides ^-1;");
        faulty(1, HEAD + "rides 1+^;");
        faulty(1, HEAD + "rides 1 ^2;");
        faulty(1, HEAD + "rides 1 ^hour;");
        faulty(1, HEAD + "rides (1^;");
        faulty(1, HEAD + "rides 1^);");
        faulty(1, HEAD + "rides min ^;");
        faulty(1, HEAD + "rides min(1^);");
        faulty(1, HEAD + "rides max(1,2^,3);");
        faulty(1, HEAD + "rides 0001^0;");
        faulty(1, HEAD + "rides ^manner;");
        faulty(1, HEAD + "rides ^met;");
        faulty(1, HEAD + "rides ^purse;");
        faulty(1, HEAD + "rides ^near 1;");
        faulty(1, HEAD + "rides ^hours;");
        faulty(1, HEAD + "rides ^[1];");
        faulty(1, HEAD + "rides 1^=1;");
        faulty(1, HEAD + "pays ^column;");
        faulty(1, HEAD + "pays ^row;");
        faulty(1, HEAD + "pays ^gone;");
        faulty(1, HEAD + "pays ^number;");
        faulty(1, HEAD + "keeps ^column=1;");
        faulty(1, HEAD + "keeps ^;");
        faulty(1, HEAD + "keeps 1^;");
        faulty(1, HEAD + "keeps 1<^>2;");
        faulty(1, HEAD + "keeps 1<2^<3;");
        faulty(1, HEAD + "keeps all ^all;");
        faulty(1, HEAD + "keeps all or^;");
        faulty(1, HEAD + "keeps [all^;");
        faulty(1, HEAD + "keeps (^[1]);");
        faulty(1, HEAD + "keeps 1=2^or 1=1;");
        faulty(1, HEAD + "keeps not^1=1;");
        faulty(4, HEAD + "rides ((((((^(1)))))));");
        faulty(4, HEAD + "rides min(1,min(1,min(1,min(1,min(1,min(1,min^(");
        faulty(4, HEAD + "keeps not not not not not not ^not all;");
        faulty(4, HEAD + "keeps not [not [not [^[");
        faulty(4, HEAD + "keeps [[[[[not all and not ^(1)=1");
        faulty(1, HEAD + "rides ((((((1^(");
        WildHunt x = new WildHunt();
        due("six open", Hand.land(x, HEAD + "rides ((((((1)+(2))))));keeps not not not not not not all and not [all or [not ((1))=1]];"), 3);
        due("min six deep", Hand.land(x, HEAD + "rides min(1,min(1,min(1,min(1,min(1,min(1,2))))))+min(1,2);"), 2);
    }

    private static void asksWrong(int kind, String marked) {
        Hand.asksWrong(kind, marked);
    }

    private static void faultsOfQuestions() {
        Hand.at("promise 5, FAULTS of a QUESTION");
        asksWrong(1, "^");
        asksWrong(1, " \n^");
        asksWrong(1, "^all");
        asksWrong(1, "^firsts all");
        asksWrong(1, "first^");
        asksWrong(1, "first ^foo");
        asksWrong(1, "often all^;");
        asksWrong(1, "often all ^x");
        asksWrong(1, "often 1^");
        asksWrong(1, "total ^all");
        asksWrong(1, "total 1 ^2");
        asksWrong(1, "total^1");
        asksWrong(1, "total near^1");
        asksWrong(1, "total near ^+1");
        asksWrong(1, "total near ^");
        asksWrong(1, "total 1234^5");
        asksWrong(1, "most ^[1]");
        asksWrong(4, "total near near near near near near ^near 1");
        asksWrong(4, "total (near (near (near ^(1");
        asksWrong(4, "often not [near near near near ^near 1=1]");
        WildHunt x = Hand.over(SMALL);
        due("near ends with its part", Hand.ask(x, "total near near near near near near 1+near near near near near near 1"), 0);
    }

    private static void faultKept() {
        Hand.at("promise 5, the latest");
        WildHunt x = new WildHunt();
        Hand.land(x, "land 1");
        due("ask without a land", Hand.ask(x, "x"), NOTHING);
        due("fault of land", x.fault(0), 2);
        due("place of land", x.fault(1), 5);
        due("other what", x.fault(2), NONE);
        due("other what", x.fault(-1), NONE);
        Hand.land(x, SMALL);
        due("good land", x.fault(0), 0);
        due("good land", x.fault(1), NONE);
        Hand.ask(x, "often x");
        due("wrong question", x.fault(1), 6);
        Hand.ask(x, "often all");
        due("good question", x.fault(0), 0);
        due("good question", x.fault(1), NONE);
    }

    // ---- 6 to 11

    private static void has() {
        Hand.at("promise 6");
        WildHunt x = Hand.over("land 4 by 3 hunt 0 0;chapel 3 2;chapel 3 1;bell a at 0 2 rope 1;bell b at 3 2 rope 1;bell c at 3 2 rope 2;"
            + "walker w from 1 0 to 1 0 does 1;walker v from 1 0 to 1 0 does 2;pays 7;year 5;");
        due("columns", x.has(0), 4);
        due("rows", x.has(1), 3);
        due("chapels", x.has(2), 2);
        due("bells", x.has(3), 3);
        due("walkers", x.has(4), 2);
        x.nights(2);
        due("night", x.has(5), 2);
        due("none rung", x.has(6), 0);
        x.ring(2, 1);
        x.ring(0, 1);
        due("rung", x.has(6), 2);
        due("gone", x.has(7), 1);
        due("purses", x.has(8), 21);
        due("told", x.has(9), 3);
        Hand.put(x, 1, 1, 0, 0, 0, 0);
        x.see();
        due("seen", x.has(10), 2);
        due("acts", x.has(11), 3);
        due("others", x.has(12), NONE);
        due("others", x.has(-1), NONE);
    }

    private static void letter() {
        Hand.at("promise 7");
        WildHunt x = Hand.over(SMALL + "bell az at 0 0 rope 0;walker zebras from 0 0 to 0 0 does 0;walker q from 0 0 to 0 0 does 0;");
        due("a", x.letter(0, 0, 0), 1);
        due("z", x.letter(0, 0, 1), 26);
        due("behind", x.letter(0, 0, 2), 0);
        due("behind", x.letter(0, 0, 5), 0);
        due("beyond", x.letter(0, 0, 6), NONE);
        due("ahead", x.letter(0, 0, -1), NONE);
        due("z", x.letter(1, 0, 0), 26);
        due("s", x.letter(1, 0, 5), 19);
        due("q", x.letter(1, 1, 0), 17);
        due("no bell", x.letter(0, 1, 0), NONE);
        due("no walker", x.letter(1, 2, 0), NONE);
        due("no walker", x.letter(1, -1, 0), NONE);
        due("no kind", x.letter(2, 0, 0), NONE);
        due("no kind", x.letter(-1, 0, 0), NONE);
    }

    private static void cell() {
        Hand.at("promise 8");
        WildHunt x = Hand.over("land 4 by 4 hunt 0 0;chapel 2 0;bell b at 3 3 rope 1;bell c at 0 3 rope 1;");
        due("chapel", x.cell(2, 0, 0), 1);
        due("no chapel", x.cell(0, 0, 0), 0);
        due("not rung", x.cell(3, 3, 1), 0);
        x.ring(0, 1);
        due("under it", x.cell(3, 3, 1), 1);
        due("slantwise", x.cell(2, 2, 1), 1);
        due("two off", x.cell(1, 3, 1), 0);
        due("the other one", x.cell(0, 3, 1), 0);
        due("begin", x.cell(0, 0, 2), 0);
        due("first hour", x.cell(1, 0, 2), 1);
        due("round the chapel", x.cell(2, 1, 2), 2);
        due("then on", x.cell(3, 1, 2), 3);
        due("never there", x.cell(0, 3, 2), NONE);
        due("no column", x.cell(4, 0, 0), NONE);
        due("no row", x.cell(0, 4, 0), NONE);
        due("below", x.cell(-1, 0, 0), NONE);
        due("below", x.cell(0, -1, 2), NONE);
        due("others", x.cell(0, 0, 3), NONE);
        due("others", x.cell(0, 0, -1), NONE);
    }

    private static void bell() {
        Hand.at("promise 9");
        WildHunt x = Hand.over(WIDE + "bell b at 6 2 rope 4;bell c at 0 0 rope 99;rides 0;harm 7;");
        due("column", x.bell(0, 0), 6);
        due("row", x.bell(0, 1), 2);
        due("rope", x.bell(0, 2), 4);
        due("rung", x.bell(0, 3), 0);
        due("far off", x.bell(0, 4), 0);
        due("near", x.bell(1, 4), 7);
        x.ring(0, 1);
        x.ring(1, 1);
        due("rung", x.bell(0, 3), 1);
        due("its rope", x.bell(0, 4), 4);
        due("harm and rope", x.bell(1, 4), 106);
        due("others", x.bell(0, 5), NONE);
        due("others", x.bell(0, -1), NONE);
        due("none such", x.bell(2, 0), NONE);
        due("none such", x.bell(-1, 0), NONE);
        WildHunt y = Hand.over(SMALL + "bell a at 1 1 rope 1;");
        due("harm without", y.bell(0, 4), 20);
    }

    private static void walker() {
        Hand.at("promise 10");
        WildHunt x = Hand.over("land 5 by 4 hunt 0 0;walker a from 1 2 to 3 0 does 3;walker b from 1 0 to 1 0 does 1;pays 30;");
        int[] due = {1, 2, 3, 0, 3, 0, 0, 0};
        for (int k = 0; k < 8; k++) {
            due("walker 0 " + k, x.walker(0, k), due[k]);
        }
        x.nights(1);
        due("met", x.walker(1, 5), 1);
        due("purse", x.walker(1, 6), 30);
        due("year without", x.walker(1, 7), 12);
        x.nights(12);
        due("back", x.walker(1, 7), 0);
        due("met once", x.walker(1, 5), 1);
        x.nights(1);
        due("met again", x.walker(1, 5), 2);
        due("others", x.walker(0, 8), NONE);
        due("others", x.walker(0, -1), NONE);
        due("none such", x.walker(2, 0), NONE);
        due("none such", x.walker(-1, 0), NONE);
    }

    private static void told() {
        Hand.at("promise 11");
        // The HUNT is in row 0 in HOUR 1 and in row 1 in HOUR 2.
        WildHunt x = Hand.over(SMALL + "walker late from 1 1 to 1 1 does 2;walker soon from 1 0 to 1 0 does 1;year 1;");
        x.nights(2);
        int[][] due = {{0, 2, 0, 0}, {0, 1, 1, 1}, {1, 2, 0, 0}};
        for (int k = 0; k < 3; k++) {
            for (int what = 0; what < 4; what++) {
                due("told " + k + " " + what, x.told(k, what), due[k][what]);
            }
        }
        due("beyond", x.told(3, 0), NONE);
        due("below", x.told(-1, 0), NONE);
        due("others", x.told(0, 4), NONE);
        due("others", x.told(0, -1), NONE);
        // Three rows in two NIGHTS: 28 more NIGHTS make 45, of which the last 40 stay.
        x.nights(28);
        due("the last 40", x.has(9), 40);
        due("oldest", x.told(0, 0), 3);
        due("oldest", x.told(0, 2), 0);
        due("next", x.told(1, 0), 4);
        due("newest", x.told(39, 0), 29);
        due("beyond", x.told(40, 0), NONE);
    }

    // ---- 12 to 16

    private static void path(WildHunt x, String text) {
        for (int hour = 0; hour < 12 && hour * 3 < text.length(); hour++) {
            due("hunt " + hour + " column", x.hunt(hour, 0), text.charAt(hour * 3) - '0');
            due("hunt " + hour + " row", x.hunt(hour, 1), text.charAt(hour * 3 + 1) - '0');
        }
    }

    private static void hunt() {
        Hand.at("promise 12");
        WildHunt x = Hand.over(SMALL);
        path(x, "00 10 11 01 11 01 11 01 11 01 11 01");
        due("no hour", x.hunt(12, 0), NONE);
        due("no hour", x.hunt(-1, 0), NONE);
        due("others", x.hunt(0, 2), NONE);
        due("others", x.hunt(0, -1), NONE);
        due("without a land", new WildHunt().hunt(0, 0), NONE);
    }

    private static void rides() {
        Hand.at("promise 12, rides");
        path(Hand.over("land 3 by 3 hunt 1 1;rides 0;"), "11 11 11");
        // Way 1 up, then nothing up there: 2 leaves, 3 right; 1, 2, 3, 4 leave, 5 down.
        path(Hand.over("land 3 by 3 hunt 1 1;rides 1;"), "11 10 20 21 20 21");
        path(Hand.over("land 3 by 3 hunt 1 1;rides 2;"), "11 20 21 22 12");
        path(Hand.over("land 3 by 3 hunt 1 1;rides 4;"), "11 22 12 02 01 12");
        path(Hand.over("land 3 by 3 hunt 1 1;rides 5;"), "11 12 02 01 02");
        path(Hand.over("land 3 by 3 hunt 1 1;rides 6;"), "11 02 01 00 10 01");
        path(Hand.over("land 3 by 3 hunt 1 1;rides 7;"), "11 01 00 10 00");
        path(Hand.over("land 3 by 3 hunt 1 1;rides 8;"), "11 00 10 20 21");
        path(Hand.over("land 3 by 3 hunt 1 1;rides 9;"), "11 11");
        path(Hand.over("land 3 by 3 hunt 1 1;rides 0-1;"), "11 00");
        path(Hand.over("land 3 by 3 hunt 1 1;rides 0-9;"), "11 11");
        path(Hand.over("land 7 by 7 hunt 0 0;rides 3+hour*2;"), "00 10 11 01 01 10");
        path(Hand.over("land 7 by 7 hunt 0 0;rides 4-column/2-row/2;"), "00 11 22 31 41 50");
        WildHunt x = Hand.over("land 3 by 3 hunt 1 1;rides night*8;");
        path(x, "11 11");
        x.nights(1);
        path(x, "11 00");
        // Round a chapel, and shut in by chapels.
        path(Hand.over("land 3 by 3 hunt 0 1;chapel 1 1;"), "01 12 22 12");
        path(Hand.over("land 2 by 2 hunt 0 0;chapel 1 0;chapel 0 1;chapel 1 1;"), "00 00 00");
        // A rung bell shuts the cells around it, but not the one where the hunt is.
        WildHunt y = Hand.over("land 5 by 3 hunt 0 1;bell b at 3 1 rope 1;");
        path(y, "01 11 21 31 41");
        y.ring(0, 1);
        path(y, "01 11 12 02 12");
        y.ring(0, 0);
        path(y, "01 11 21 31 41");
        WildHunt z = Hand.over("land 2 by 2 hunt 0 0;bell b at 1 1 rope 1;");
        z.ring(0, 1);
        path(z, "00 00 00 00 00 00 00 00 00 00 00 00");
    }

    private static void meets() {
        Hand.at("promise 13");
        WildHunt x = Hand.over(SMALL + "walker a from 1 0 to 1 0 does 2;walker b from 1 0 to 1 0 does 0;walker c from 1 1 to 0 1 does 1;"
            + "walker d from 0 0 to 1 0 does 3;walker e from 0 1 to 0 0 does 3;year 2;");
        due("stands there", x.meets(0), 1);
        due("lies down", x.meets(1), NONE);
        due("walks there first", x.meets(2), 3);
        due("at once", x.meets(3), 0);
        due("never", x.meets(4), NONE);
        due("none such", x.meets(5), NONE);
        due("none such", x.meets(-1), NONE);
        x.nights(1);
        due("gone", x.meets(2), NONE);
        due("not kept", x.meets(0), 1);
        x.nights(2);
        due("back", x.meets(2), 3);
        // To pass the hunt by changing places is no meeting: 01 -> 11 -> 21 against 11 -> 01.
        WildHunt y = Hand.over(WIDE + "walker p from 3 1 to 0 1 does 2;walker q from 4 1 to 0 1 does 2;walker r from 6 2 to 0 0 does 2;");
        due("odd: changed places", y.meets(0), NONE);
        due("even: meet in the middle", y.meets(1), 2);
        // Column and row by themselves: 62 51 40 30 20 ..
        due("slantwise", y.meets(2), NONE);
    }

    private static void safe() {
        Hand.at("promise 14");
        WildHunt x = Hand.over(SMALL + "walker a from 1 0 to 1 0 does 2;walker b from 0 0 to 0 0 does 2;walker c from 1 0 to 0 1 does 1;"
            + "walker d from 1 0 to 0 0 does 0;year 3;");
        due("there already", x.safe(0), 0);
        due("on the hunt's cell", x.safe(1), NONE);
        due("slantwise", x.safe(2), 1);
        // In HOUR 1 the HUNT comes to 10 from 00: changing places is barred, the way goes round by HOUR 2.
        due("no changing places", x.safe(3), 2);
        x.nights(1);
        due("gone or not", x.safe(2), 1);
        due("none such", x.safe(4), NONE);
        due("none such", x.safe(-1), NONE);
        // Hunt 0 1 .. goes right: a walker of the same row goes round it.
        WildHunt y = Hand.over(WIDE + "walker w from 6 1 to 0 1 does 1;walker v from 0 0 to 6 2 does 3;");
        due("round it", y.safe(0), 6);
        // Column by column it would have to pass row 1 on the HUNT's CELL; in HOUR 7 the HUNT is on the goal.
        due("behind it", y.safe(1), 8);
        // The goal is held by the HUNT for the whole NIGHT.
        WildHunt z = Hand.over("land 2 by 2 hunt 0 0;rides 0;walker w from 1 1 to 0 0 does 1;");
        due("never", z.safe(0), NONE);
        // Held until HOUR 10: the goal is free in HOUR 11.
        WildHunt u = Hand.over("land 2 by 2 hunt 0 0;rides hour/10*3;walker w from 1 1 to 0 0 does 1;");
        due("in the last hour", u.safe(0), 11);
    }

    private static void peal() {
        Hand.at("promise 15");
        due("nobody", Hand.over(SMALL).peal(), 0);
        WildHunt x = Hand.over(SMALL + "walker a from 1 0 to 1 0 does 2;");
        due("no bells", x.peal(), NONE);
        x.does(0, 0);
        due("lies down", x.peal(), 0);
        WildHunt y = Hand.over("land 7 by 5 hunt 0 1;bell a at 0 4 rope 1;bell b at 6 1 rope 1;bell c at 6 2 rope 1;walker w from 6 1 to 6 1 does 1;year 4;");
        // Ringing b or c keeps the hunt from 6 1; of like ones the least bits.
        due("one bell, the lesser", y.peal(), 2);
        y.ring(0, 1);
        y.ring(1, 1);
        due("whatever is rung", y.peal(), 2);
        y.ring(0, 0);
        y.ring(1, 0);
        y.nights(1);
        due("gone", y.peal(), 0);
        WildHunt z = Hand.over("land 2 by 2 hunt 0 0;walker w from 0 0 to 0 0 does 2;bell a at 0 0 rope 1;");
        due("met at once whatever is rung", z.peal(), NONE);
        due("without a land", new WildHunt().peal(), NONE);
        // a turns the HUNT from p to q, b turns it from q: both are needed, z is of no use.
        WildHunt u = Hand.over("land 7 by 7 hunt 0 3;bell z at 6 0 rope 1;bell a at 1 2 rope 1;bell b at 4 4 rope 1;"
            + "walker p from 1 3 to 1 3 does 2;walker q from 3 4 to 3 4 does 3;");
        due("two bells", u.peal(), 6);
    }

    private static void rest() {
        Hand.at("promise 16");
        due("no bells", Hand.over(SMALL).rest(), 0);
        due("without a land", new WildHunt().rest(), NONE);
        // The hunt goes to b unless b is rung: rope below harm, b rings.
        String text = "land 7 by 3 hunt 0 1;rides 3*max(0,4-hour)/max(1,4-hour);bell a at 5 1 rope 5;";
        due("rings for less", Hand.over(text + "harm 6;").rest(), 1);
        due("like loss: does not", Hand.over(text + "harm 5;").rest(), 0);
        due("dearer: does not", Hand.over(text + "harm 4;").rest(), 0);
        // Two bells by one place: either one alone is at rest, the lesser bits are taken; the set of none is not.
        due("one for both", Hand.over(text + "bell b at 5 1 rope 5;harm 6;").rest(), 1);
        due("the cheap one alone", Hand.over(text.replace("rope 5", "rope 9") + "bell b at 5 1 rope 5;harm 6;").rest(), 2);
        // Near where it begins ringing does not help.
        due("in vain", Hand.over(SMALL + "bell a at 1 1 rope 0;harm 9;").rest(), 0);
        // Whatever is rung now does not matter.
        WildHunt x = Hand.over(text + "harm 4;");
        x.ring(0, 1);
        due("rung now", x.rest(), 0);
    }

    // ---- 17 to 22

    private static void later() {
        Hand.at("promise 17");
        WildHunt x = Hand.over(SMALL + "walker a from 1 0 to 1 0 does 1;walker b from 1 1 to 1 1 does 2;year 2;pays 4+met;storm 100;");
        int[] meetings = {0, 2, 3, 4, 6};
        int[] gone = {0, 1, 1, 0, 1};
        int[] purses = {0, 8, 13, 19, 31};
        int[] kept = {0, 1, 1, 1, 2};
        for (int n = 0; n < 5; n++) {
            due("meetings " + n, x.later(n, 0), meetings[n]);
            due("gone " + n, x.later(n, 1), gone[n]);
            due("purses " + n, x.later(n, 2), purses[n]);
            due("kept " + n, x.later(n, 3), kept[n]);
        }
        due("60", x.later(60, 0), 80);
        due("61", x.later(61, 0), NONE);
        due("-1", x.later(-1, 0), NONE);
        due("others", x.later(1, 4), NONE);
        due("others", x.later(1, -1), NONE);
        due("nothing goes by", x.has(5), 0);
        due("nothing is told", x.has(9), 0);
        due("no act", x.has(11), 0);
        due("without a land", new WildHunt().later(0, 0), NONE);
    }

    private static void chapel() {
        Hand.at("promise 18");
        // Hunt along row 1; a walker at 4 1 is met in HOUR 4; a chapel anywhere on 11 21 31 41 may do.
        WildHunt x = Hand.over(WIDE + "walker w from 4 1 to 4 1 does 2;");
        due("met", x.meets(0), 4);
        // With 1 1 shut it goes 1 2, 2 2 .. along row 2 to 62, back 52 and 62: never 4 1.
        due("column", x.chapel(1, 0), 1);
        due("row", x.chapel(1, 1), 1);
        due("fewer", x.chapel(1, 2), 1);
        due("fewer of 20", x.chapel(20, 2), 20);
        due("others", x.chapel(1, 3), NONE);
        due("others", x.chapel(1, -1), NONE);
        due("0", x.chapel(0, 0), NONE);
        due("21", x.chapel(21, 0), NONE);
        due("chapels stay", x.has(2), 0);
        due("without a land", new WildHunt().chapel(1, 0), NONE);
        due("nobody met", Hand.over(SMALL).chapel(1, 0), NONE);
        WildHunt y = Hand.over(SMALL + "walker w from 0 0 to 0 0 does 2;");
        due("met where it begins", y.chapel(1, 2), NONE);
    }

    private static void first() {
        Hand.at("promise 19");
        WildHunt x = Hand.over("land 2 by 2 hunt 0 0;rides night/5*3;walker a from 1 0 to 1 0 does 2;walker b from 0 0 to 0 0 does 1;"
            + "walker c from 0 1 to 0 1 does 0;walker d from 1 0 to 1 0 does 0;year 9;");
        due("in the sixth", x.first(0), 6);
        due("in this one", x.first(1), 1);
        due("lies down", x.first(3), NONE);
        due("none such", x.first(4), NONE);
        due("none such", x.first(-1), NONE);
        x.nights(1);
        due("gone for nine", x.first(1), 10);
        WildHunt y = Hand.over("land 2 by 2 hunt 0 0;rides night/59*3;walker a from 1 0 to 1 0 does 2;");
        due("in the 60th", y.first(0), 60);
        WildHunt z = Hand.over("land 2 by 2 hunt 0 0;rides night/60*3;walker a from 1 0 to 1 0 does 2;");
        due("in the 61st", z.first(0), NONE);
        due("nothing went by", z.has(5), 0);
    }

    private static int see(WildHunt x, int... bytes) {
        Hand.put(x, bytes);
        return x.see();
    }

    private static void see() {
        Hand.at("promise 20");
        WildHunt x = Hand.over("land 3 by 2 hunt 0 0;");
        due("one", see(x, 11, 2, 1), 1);
        due("twelve", see(x, new int[36]), 12);
        due("has", x.has(10), 12);
        due("thirteen", see(x, new int[39]), NONE);
        due("none", see(x), NONE);
        due("two bytes", see(x, 0, 0), NONE);
        due("four bytes", see(x, 0, 0, 0, 0), NONE);
        due("hour 12", see(x, 12, 0, 0), NONE);
        due("hour 255", see(x, 255, 0, 0), NONE);
        due("column 3", see(x, 0, 3, 0), NONE);
        due("row 2", see(x, 0, 0, 0, 0, 0, 2), NONE);
        due("all stays", x.has(10), 12);
        due("tape goes", x.feed(0, 0, 0, 0, 0), 20);
        x.end(0);
        due("status 1", x.status(1), 8);
        due("the latest alone", see(x, 1, 1, 0), 1);
        due("has", x.has(10), 1);
        WildHunt y = new WildHunt();
        due("without a land", see(y, 0, 0, 0), NONE);
        due("tape goes", y.feed(0, 0, 0, 0, 0), 20);
        due("status 1", y.status(1), 1);
    }

    private static void began() {
        Hand.at("promise 21");
        WildHunt x = Hand.over("land 3 by 2 hunt 0 0;chapel 0 1;");
        due("all but chapels", x.began(0), 5);
        due("first", x.began(1), 0);
        due("last", x.began(2), 5);
        due("others", x.began(3), NONE);
        due("others", x.began(-1), NONE);
        // To 1 0 in HOUR 1: from 0 0 (way 3). From 2 0 it goes down (5), from 1 1 right, from 2 1 left (7).
        see(x, 1, 1, 0);
        due("one", x.began(0), 1);
        due("first", x.began(1), 0);
        due("last", x.began(2), 0);
        see(x, 1, 2, 1);
        due("from 2 0 and 1 1", x.began(0), 2);
        due("first", x.began(1), 2);
        due("last", x.began(2), 4);
        see(x, 1, 2, 1, 0, 1, 1);
        due("one of them", x.began(0), 1);
        due("it", x.began(1), 4);
        see(x, 0, 0, 1);
        due("a chapel", x.began(0), 0);
        due("first", x.began(1), NONE);
        due("last", x.began(2), NONE);
        due("without a land", new WildHunt().began(0), NONE);
        // As the bells are rung now, of this night.
        WildHunt y = Hand.over("land 5 by 2 hunt 0 0;bell b at 4 0 rope 1;rides 3*max(0,1-night);");
        see(y, 1, 3, 0);
        due("from the left", y.began(1), 2);
        y.ring(0, 1);
        // From 2 0 it is turned to 2 1; none goes there but who stays: none can.
        due("bell rung", y.began(0), 0);
        y.ring(0, 0);
        y.nights(1);
        due("stays in night 1", y.began(1), 3);
        due("stays in night 1", y.began(0), 1);
    }

    private static void tells() {
        Hand.at("promise 22");
        WildHunt x = Hand.over("land 3 by 2 hunt 0 0;");
        due("hour", x.tells(0), 0);
        due("left", x.tells(1), 1);
        due("others", x.tells(2), NONE);
        due("others", x.tells(-1), NONE);
        see(x, 1, 2, 1);
        due("hour", x.tells(0), 0);
        due("left", x.tells(1), 1);
        see(x, 0, 0, 0, 0, 1, 0);
        due("without a cell", x.tells(0), NONE);
        due("without a cell", x.tells(1), NONE);
        due("without a land", new WildHunt().tells(0), NONE);
    }

    // ---- 23 to 28

    private static void ring() {
        Hand.at("promise 23");
        WildHunt x = Hand.over(SMALL + "bell a at 0 0 rope 1;bell b at 0 0 rope 1;");
        due("so already", x.ring(0, 0), false);
        due("rung", x.ring(0, 1), true);
        due("so already", x.ring(0, 1), false);
        due("the other", x.ring(1, 1), true);
        due("no more", x.ring(0, 0), true);
        due("others", x.ring(0, 2), false);
        due("others", x.ring(0, -1), false);
        due("none such", x.ring(2, 1), false);
        due("none such", x.ring(-1, 1), false);
        due("status 2", x.status(2), 6);
        due("acts", x.has(11), 3);
        due("a", x.bell(0, 3), 0);
        due("b", x.bell(1, 3), 1);
        due("without a land", new WildHunt().ring(0, 1), false);
    }

    private static void does() {
        Hand.at("promise 24");
        WildHunt x = Hand.over(SMALL + "walker a from 0 0 to 0 0 does 2;");
        due("already", x.does(0, 2), false);
        due("0", x.does(0, 0), true);
        due("3", x.does(0, 3), true);
        due("4", x.does(0, 4), false);
        due("-1", x.does(0, -1), false);
        due("none such", x.does(1, 0), false);
        due("none such", x.does(-1, 0), false);
        due("status 2", x.status(2), 5);
        due("manner", x.walker(0, 4), 3);
        due("acts", x.has(11), 2);
    }

    private static void nights() {
        Hand.at("promise 25");
        WildHunt x = Hand.over(SMALL + "walker a from 1 0 to 1 0 does 1;walker b from 1 1 to 1 1 does 3;year 1;storm 100;");
        due("one", x.nights(1), 2);
        due("two", x.nights(2), 3);
        due("100", x.nights(100), 150);
        due("night", x.has(5), 103);
        due("0", x.nights(0), NONE);
        due("101", x.nights(101), NONE);
        due("-1", x.nights(-1), NONE);
        due("status 3", x.status(3), 3);
        due("acts", x.has(11), 3);
        due("without a land", new WildHunt().nights(1), NONE);
    }

    private static void pays() {
        Hand.at("promise 25, pays");
        WildHunt x = Hand.over(SMALL + "walker a from 1 0 to 1 0 does 2;walker b from 1 1 to 1 1 does 3;pays 100*hour+10*manner+met+purse*0-night*1000*(manner-2);");
        x.nights(1);
        due("a: 100 + 20", x.walker(0, 6), 120);
        due("b: 200 + 30", x.walker(1, 6), 230);
        x.nights(1);
        due("a: 100 + 20 + 1 more", x.walker(0, 6), 241);
        due("b: 231 - 1000 less, not below 0", x.walker(1, 6), 0);
        WildHunt y = Hand.over(SMALL + "walker a from 1 0 to 1 0 does 2;pays 4000+purse;");
        y.nights(1);
        due("4000", y.walker(0, 6), 4000);
        y.nights(1);
        due("9999 at most", y.walker(0, 6), 9999);
        WildHunt z = Hand.over(SMALL + "walker a from 1 0 to 1 0 does 2;walker b from 1 0 to 1 0 does 0;");
        z.nights(5);
        due("nothing without", z.has(8), 0);
        due("met all the same", z.walker(0, 5), 5);
        due("lies down", z.walker(1, 5), 0);
    }

    private static void keeps() {
        Hand.at("promise 25, keeps");
        // By the purse ahead of the pay: 0, 10, then 20 is above 15.
        WildHunt x = Hand.over(SMALL + "walker a from 1 0 to 1 0 does 3;pays 10;keeps purse>15;year 3;");
        x.nights(2);
        due("not yet", x.walker(0, 7), 0);
        x.nights(1);
        due("kept, this night not counted", x.walker(0, 7), 3);
        due("paid as well", x.walker(0, 6), 30);
        due("told", x.told(2, 3), 1);
        due("two nights", x.nights(2), 0);
        due("one left", x.walker(0, 7), 1);
        due("the third", x.nights(1), 0);
        due("then again", x.nights(1), 1);
        // By how often he met it ahead, the hour, the night, the manner.
        WildHunt y = Hand.over(SMALL + "walker a from 1 0 to 1 0 does 3;keeps met=1 and hour=1 and night=1 and manner=3;");
        y.nights(1);
        due("not in night 0", y.has(7), 0);
        y.nights(1);
        due("in night 1", y.has(7), 1);
        // Who answers is kept whatever keeps says.
        WildHunt z = Hand.over(SMALL + "walker a from 1 0 to 1 0 does 1;walker b from 1 0 to 1 0 does 2;keeps not all;");
        z.nights(1);
        due("a", z.walker(0, 7), 12);
        due("b", z.walker(1, 7), 0);
    }

    private static void lastNight() {
        Hand.at("promise 25, night 999");
        WildHunt x = Hand.over(SMALL + "walker a from 1 0 to 1 0 does 2;");
        for (int k = 0; k < 9; k++) {
            x.nights(100);
        }
        x.nights(50);
        due("night", x.has(5), 950);
        due("too many", x.nights(50), NONE);
        due("too many", x.chance(50), NONE);
        due("status 3", x.status(3), 2);
        due("later 49", x.later(49, 0), 49);
        due("later 50", x.later(50, 0), NONE);
        due("as many as there are", x.nights(49), 49);
        due("night", x.has(5), 999);
        due("no more", x.nights(1), NONE);
        due("no more", x.chance(1), NONE);
        due("later 0", x.later(0, 0), 0);
        due("later 1", x.later(1, 0), NONE);
        due("chapel", x.chapel(1, 2), NONE);
        due("first", x.first(0), NONE);
        due("this night", x.meets(0), 1);
        due("undo", x.undo(), true);
        due("chapel 20", x.chapel(20, 2), 20);
        due("night", x.has(5), 950);
    }

    private static void chance() {
        Hand.at("promise 26");
        // From 1 on: 1103527590, of which the 64th part is 17242618: the first draw is 18.
        int[] draws = new int[6];
        long seed = 1;
        for (int k = 0; k < 6; k++) {
            seed = (seed * 1103515245L + 12345L) % 2147483648L;
            draws[k] = (int) (seed / 64 % 100);
        }
        due("the first draw", draws[0], 18);
        for (int storm : new int[] {0, 18, 19, 50, 100}) {
            WildHunt x = Hand.over(SMALL + "walker a from 1 0 to 1 0 does 2;storm " + storm + ";");
            int storms = 0;
            for (int d : draws) {
                storms += d < storm ? 1 : 0;
            }
            due("storms below " + storm, x.chance(6), storms);
            due("met", x.walker(0, 5), 6 - storms);
            due("night", x.has(5), 6);
            due("one act", x.has(11), 1);
        }
        WildHunt x = Hand.over(SMALL + "walker a from 1 0 to 1 0 does 1;year 4;storm 100;");
        x.nights(1);
        due("gone", x.walker(0, 7), 4);
        due("storms", x.chance(3), 3);
        due("each night is one less", x.walker(0, 7), 1);
        due("storms", x.chance(3), 3);
        due("none below 0", x.walker(0, 7), 0);
        due("nothing met", x.walker(0, 5), 1);
        due("0", x.chance(0), NONE);
        due("101", x.chance(101), NONE);
        due("100", x.chance(100), 100);
        due("status 3", x.status(3), 2);
        due("without a land", new WildHunt().chance(1), NONE);
        // Without storm the draws are made all the same.
        WildHunt y = Hand.over(SMALL);
        y.chance(2);
        Hand.land(y, SMALL + "storm 50;");
        WildHunt z = Hand.over(SMALL + "storm 50;");
        int whole = z.chance(22);
        due("draws without storm", y.chance(20), whole - (draws[0] < 50 ? 1 : 0) - (draws[1] < 50 ? 1 : 0));
    }

    private static void undo() {
        Hand.at("promise 27");
        WildHunt x = Hand.over(SMALL + "walker a from 1 0 to 1 0 does 1;bell b at 0 1 rope 1;pays 5;year 3;storm 50;");
        due("none", x.undo(), false);
        x.nights(1);
        x.ring(0, 1);
        x.does(0, 3);
        x.chance(3);
        due("acts", x.has(11), 4);
        due("chance", x.undo(), true);
        due("night", x.has(5), 1);
        due("gone", x.walker(0, 7), 3);
        due("does", x.undo(), true);
        due("manner", x.walker(0, 4), 1);
        due("ring", x.undo(), true);
        due("rung", x.bell(0, 3), 0);
        due("nights", x.undo(), true);
        due("night", x.has(5), 0);
        due("purse", x.walker(0, 6), 0);
        due("met", x.walker(0, 5), 0);
        due("gone", x.walker(0, 7), 0);
        due("told", x.has(9), 0);
        due("none left", x.undo(), false);
        due("status 4", x.status(4), 2);
        // The seed stays: the three draws are not given back.
        WildHunt y = Hand.over(SMALL + "storm 50;");
        y.chance(3);
        due("the same draws follow", x.chance(40), y.chance(40));
        for (int k = 0; k < 25; k++) {
            x.ring(0, (k + 1) % 2);
        }
        due("20 at most", x.has(11), 20);
        for (int k = 0; k < 20; k++) {
            due("undo " + k, x.undo(), true);
        }
        due("no 21st", x.undo(), false);
        due("five stay", x.bell(0, 3), 1);
        due("refused acts don't count", x.ring(0, 1), false);
        due("none", x.has(11), 0);
    }

    private static void seed() {
        Hand.at("promise 28");
        WildHunt x = Hand.over(SMALL + "storm 50;");
        due("-1", x.seed(-1), false);
        due("least", x.seed(Integer.MIN_VALUE), false);
        due("status 5", x.status(5), 2);
        WildHunt y = Hand.over(SMALL + "storm 50;");
        due("1", y.seed(1), true);
        due("1 at first", x.chance(90), y.chance(90));
        due("0", y.seed(0), true);
        // x = 12345: floor(12345 / 64) = 192, 92 of 100; then 1406932606 + 12345 .. by the rule.
        due("92 is no storm", y.chance(1), 0);
        due("greatest", y.seed(Integer.MAX_VALUE), true);
        // (2^31 - 1) 1103515245 + 12345 mod 2^31 = 2^31 - 1103515245 + 12345 = 1043980748; 16312199 of 100 is 99.
        due("99 is no storm", y.chance(1), 0);
        due("no act", x.has(11), 1);
        due("without a land", new WildHunt().seed(3), true);
    }

    // ---- 29 to 33

    private static void ask() {
        Hand.at("promise 29");
        WildHunt x = Hand.over("land 4 by 3 hunt 0 0;walker a from 1 0 to 1 0 does 1;walker b from 3 2 to 3 2 does 2;walker c from 2 1 to 0 0 does 0;pays 50;year 6;");
        due("first all", Hand.ask(x, "first all"), 0);
        due("last all", Hand.ask(x, "last all"), 2);
        due("often all", Hand.ask(x, "often all"), 3);
        due("none", Hand.ask(x, "first not all"), NONE);
        due("none", Hand.ask(x, "last number>2"), NONE);
        due("often none", Hand.ask(x, "often number>2"), 0);
        due("first", Hand.ask(x, "first column>1"), 1);
        due("last", Hand.ask(x, "last row<2 and column<2"), 0);
        due("or", Hand.ask(x, "often number=0 or number=2 and row=5"), 1);
        due("brackets", Hand.ask(x, "often [number=0 or number=2] and row=5"), 0);
        due("not binds to its fact", Hand.ask(x, "often not number=0 and number<2"), 1);
        due("total", Hand.ask(x, " total\nnumber "), 3);
        due("most", Hand.ask(x, "most column"), 3);
        due("least", Hand.ask(x, "least column-5"), -4);
        due("least is NONE too", Hand.ask(x, "least 0-1"), -1);
        due("manner", Hand.ask(x, "total manner"), 3);
        // a meets it in 1, b: 00 10 20 30 31 32 in 5, c lies down: 12.
        due("hours", Hand.ask(x, "total hour"), 18);
        due("hour", Hand.ask(x, "first hour=5"), 1);
        due("near 0", Hand.ask(x, "total near 0"), 6);
        due("near 3", Hand.ask(x, "total near 3"), 5);
        // Homes 10, 32, 21 are 1, 3, 2 from 00; in HOURS 1, 3, 2 the HUNT is at 10, 30, 20: 0, 2, 1 from them.
        due("near itself", Hand.ask(x, "most near near 0"), 2);
        due("near 12", Hand.ask(x, "total near 12"), 0);
        due("near below", Hand.ask(x, "total near (0-1)"), 0);
        due("near binds to its part", Hand.ask(x, "total near 3+1"), 8);
        x.nights(2);
        due("met", Hand.ask(x, "total met"), 3);
        due("purse", Hand.ask(x, "most purse"), 100);
        due("gone", Hand.ask(x, "total gone"), 5);
        due("night", Hand.ask(x, "total night"), 6);
        due("who is gone would not meet it", Hand.ask(x, "total hour"), 29);
        due("all is not bounded", Hand.ask(x, "total 9999*9999"), 3000000);
        due("nor below", Hand.ask(x, "total 0-9999*9999"), -3000000);
        due("no act", x.has(11), 1);
        WildHunt y = Hand.over(SMALL);
        due("first", Hand.ask(y, "first all"), NONE);
        due("last", Hand.ask(y, "last all"), NONE);
        due("often", Hand.ask(y, "often all"), 0);
        due("total", Hand.ask(y, "total 5"), 0);
        due("most", Hand.ask(y, "most 5"), 0);
        due("least", Hand.ask(y, "least 5"), 0);
        WildHunt z = new WildHunt();
        due("without a land", Hand.ask(z, "often all"), NOTHING);
        due("tape goes", z.feed(0, 0, 0, 0, 0), 20);
    }

    private static long worth(String sum) {
        return Hand.ask(Hand.over(SMALL + "walker a from 0 0 to 0 0 does 0;"), "total " + sum);
    }

    private static void arithmetic() {
        Hand.at("promise 29, SUMS");
        due("left on", worth("10-3-2"), 5);
        due("left on", worth("100/5/2"), 10);
        due("left on", worth("7/2*2"), 6);
        due("products first", worth("1+2*3-8/4"), 5);
        due("not above", worth("(0-7)/2"), -4);
        due("not above", worth("7/(0-2)"), -4);
        due("not above", worth("(0-7)/(0-2)"), 3);
        due("by 0", worth("7/0"), 0);
        due("by 0", worth("(0-7)/(3-3)"), 0);
        due("bounded", worth("9999*9999"), 1000000);
        due("bounded each time", worth("9999*9999-1"), 999999);
        due("bounded each time", worth("1000*1000+1-1"), 999999);
        due("bounded below", worth("0-9999*9999-5+1"), -999999);
        due("bounded product below", worth("(0-9999)*9999+1"), -999999);
        due("large by large", worth("(1000*1000)*(1000*1000)"), 1000000);
        due("min", worth("min(3,2)+min(2,3)*10"), 22);
        due("max", worth("max(0-3,0-2)"), -2);
        due("digits", worth("0012+9999"), 10011);
    }

    private static void image() {
        Hand.at("promise 30, 31");
        WildHunt x = Hand.over(SMALL + "walker a from 1 0 to 1 0 does 1;walker b from 1 1 to 1 1 does 2;bell c at 0 0 rope 1;bell d at 0 0 rope 1;pays 700;year 99;");
        x.nights(100);
        x.nights(100);
        x.nights(100);
        x.ring(1, 1);
        due("octet ahead of any", x.octet(0), NONE);
        due("size", x.image(), 16);
        // a meets it in NIGHTS 0, 100, 200: 2100 = 8 * 256 + 52, gone for 99 from NIGHT 201 on, all of them gone by.
        int[] bytes = Hand.checked(1, 44, 2, 1, 0, 3, 8, 52, 0, 2, 1, 44, 39, 15, 0);
        for (int k = 0; k < 16; k++) {
            due("octet " + k, x.octet(k), bytes[k]);
        }
        due("beyond", x.octet(16), NONE);
        due("below", x.octet(-1), NONE);
        x.ring(1, 0);
        x.nights(1);
        due("the latest image stays", x.octet(1), 44);
        x.image();
        due("the new one", x.octet(1), 45);
        due("gone", x.octet(8), 99);
        Hand.land(x, SMALL);
        due("the image stays", x.octet(1), 45);
        due("no walkers", x.image(), 4);
        due("beyond", x.octet(4), NONE);
        due("without a land", new WildHunt().image(), 4);
    }

    private static boolean on(WildHunt x, int... bytes) {
        Hand.put(x, Hand.checked(bytes));
        return x.on();
    }

    private static void on() {
        Hand.at("promise 32");
        String text = SMALL + "walker a from 1 0 to 1 0 does 1;bell c at 0 0 rope 1;bell d at 0 0 rope 1;";
        WildHunt x = Hand.over(text);
        x.nights(3);
        see(x, 0, 0, 0);
        due("greatest", on(x, 3, 231, 3, 3, 39, 15, 39, 15, 99), true);
        due("night", x.has(5), 999);
        due("rung", x.has(6), 2);
        due("manner", x.walker(0, 4), 3);
        due("met", x.walker(0, 5), 9999);
        due("purse", x.walker(0, 6), 9999);
        due("gone", x.walker(0, 7), 99);
        due("nothing told", x.has(9), 0);
        due("no acts", x.has(11), 0);
        due("seen stays", x.has(10), 1);
        due("night 1000", on(x, 3, 232, 0, 0, 0, 0, 0, 0, 0), false);
        due("a third bell", on(x, 0, 0, 4, 0, 0, 0, 0, 0, 0), false);
        due("manner 4", on(x, 0, 0, 0, 4, 0, 0, 0, 0, 0), false);
        due("met 10000", on(x, 0, 0, 0, 0, 39, 16, 0, 0, 0), false);
        due("purse 10000", on(x, 0, 0, 0, 0, 0, 0, 39, 16, 0), false);
        due("gone 100", on(x, 0, 0, 0, 0, 0, 0, 0, 0, 100), false);
        due("too short", on(x, 0, 0, 0), false);
        due("too long", on(x, 0, 0, 0, 0, 0, 0, 0, 0, 0, 0), false);
        Hand.put(x, 0, 0, 0, 0, 0, 0, 0, 0, 0, 3);
        due("wrong last byte", x.on(), false);
        due("empty", x.on(), false);
        due("all stays", x.has(5), 999);
        due("status 5", x.status(5), 10);
        due("least", on(x, 0, 0, 0, 0, 0, 0, 0, 0, 0), true);
        due("gone", x.has(7), 0);
        due("tape goes", x.feed(0, 0, 0, 0, 0), 20);
        x.end(0);
        // What an image tells, another object takes.
        WildHunt y = Hand.over(text);
        y.nights(2);
        y.ring(1, 1);
        int[] bytes = new int[y.image()];
        for (int k = 0; k < bytes.length; k++) {
            bytes[k] = y.octet(k);
        }
        Hand.put(x, bytes);
        due("taken", x.on(), true);
        due("night", x.has(5), 2);
        due("gone", x.walker(0, 7), 11);
        due("rung", x.bell(1, 3), 1);
        // Met no more than 9999 times.
        due("met 9999", on(x, 0, 0, 0, 2, 39, 15, 0, 0, 0), true);
        due("meets", x.nights(1), 1);
        due("9999 at most", x.walker(0, 5), 9999);
        WildHunt z = new WildHunt();
        due("without a land", on(z, 0, 0, 0), false);
        due("tape goes", z.feed(0, 0, 0, 0, 0), 20);
    }

    private static void status() {
        Hand.at("promise 33");
        WildHunt x = new WildHunt();
        for (int k = 0; k < 6; k++) {
            due("status " + k, x.status(k), 0);
        }
        due("others", x.status(6), NONE);
        due("others", x.status(-1), NONE);
        x.end(1);
        x.land();
        x.see();
        x.ring(0, 1);
        x.does(0, 1);
        x.does(0, 1);
        x.nights(1);
        x.chance(1);
        x.chance(1);
        x.chance(1);
        for (int k = 0; k < 5; k++) {
            x.undo();
        }
        for (int k = 0; k < 3; k++) {
            x.seed(-1);
            x.on();
        }
        // What is no act and no tape is asked, not refused.
        x.ask();
        x.peal();
        x.later(99, 99);
        for (int k = 0; k < 6; k++) {
            due("status " + k, x.status(k), k + 1);
        }
        Hand.land(x, SMALL);
        for (int k = 0; k < 6; k++) {
            due("a new land, status " + k, x.status(k), k + 1);
        }
    }
}
