/**
 * The boundary cases of Terms II and III: the HUNT and the WALKERS, safe ways, peals, rest, chapels, what is seen.
 * Each method stands for one sentence, which it names; ways are worked out by hand.
 */
public final class BoundsOfNightTest {
    private static final int NONE = -1;
    private static final String TWO = "land 2 by 2 hunt 0 0;";
    private static final String MIDDLE = "land 3 by 3 hunt 1 1;";
    /** Without rides it goes right along row 1, then down the last column, then 5 2 and 6 2 in turn. */
    private static final String WIDE = "land 7 by 3 hunt 0 1;";
    /** WAYS 0 to 8 from the CELL 1 1, as column and row. */
    private static final int[][] FROM_MIDDLE = {{1, 1}, {1, 0}, {2, 0}, {2, 1}, {2, 2}, {1, 2}, {0, 2}, {0, 1}, {0, 0}};

    public static void main(String[] args) {
        ways();
        modulo();
        withoutRides();
        hourByHour();
        whereItIs();
        lastHour();
        leavesTheLand();
        clockTurnsOver();
        comesToAChapel();
        nextToARungBell();
        noneOfTheEight();
        oneOfTheEight();
        notAskedWhereItIs();
        howFar();
        walkerGoesNearer();
        untilHeIsThere();
        meetsFirstAndLastHour();
        meetsOnFirstAndLastCell();
        liesDown();
        onceInANight();
        purse();
        paysBelowZero();
        paysWithout();
        paysByNightAndManner();
        answersIsKept();
        keepsWithout();
        keepsByPurseAhead();
        goneThisNightNotCounted();
        goneInStorms();
        goneMeetsNothing();
        nightsBy999();
        metAtMost();
        told40();
        toldByNumbers();
        undone20();
        draws();
        safeFromHome();
        safeChangesPlaces();
        safeWaits();
        safeHours();
        safeDiagonal();
        pealOfNone();
        pealFewestThenLeast();
        pealOfThoseWhoWalk();
        pealOfFive();
        losesWithinOne();
        losesInEachHour();
        losesItsRope();
        restEqual();
        restFewestThenLeast();
        restOfFive();
        restAlways();
        chapelMoreRowByRow();
        chapelMoreFirstCell();
        chapelMoreFewest();
        chapelMoreIfFewer();
        chapelMoreNotWhereItBegins();
        chapelMoreBeyondTen();
        seenCells();
        seenChapels();
        telling();
        aheadWithoutDraws();
        aheadNotBeyond999();
        Hand.end();
    }

    private static void due(String call, long got, long want) {
        Hand.due(call, got, want);
    }

    private static void due(String call, boolean got, boolean want) {
        Hand.due(call, got, want);
    }

    /** The HUNT's CELLS from HOUR 0 on, as column and row, a blank between them. */
    private static void path(WildHunt x, String cells) {
        String[] due = cells.split(" ");
        for (int hour = 0; hour < due.length; hour++) {
            String is = "" + x.hunt(hour, 0) + x.hunt(hour, 1);
            due("HOUR " + hour + " is " + is + ", due is " + due[hour], is.equals(due[hour]), true);
        }
    }

    private static void path(String text, String cells) {
        path(Hand.over(text), cells);
    }

    /** AN IMAGE of a LAND with one WALKER becomes what is. */
    private static void set(WildHunt x, int night, int rung, int manner, int met, int purse, int gone) {
        Hand.put(x, Hand.checked(night >> 8, night & 255, rung, manner, met >> 8, met & 255, purse >> 8, purse & 255, gone));
        due("on", x.on(), true);
    }

    // ---- the HUNT

    private static void ways() {
        Hand.at("WAYS are 0 none, 1 up, then by the clock 2 .. 8");
        for (int way = 0; way <= 8; way++) {
            WildHunt x = Hand.over(MIDDLE + "rides " + way + ";");
            due("way " + way + " column", x.hunt(1, 0), FROM_MIDDLE[way][0]);
            due("way " + way + " row", x.hunt(1, 1), FROM_MIDDLE[way][1]);
        }
    }

    private static void modulo() {
        Hand.at("the SUM of rides modulo 9 (0 .. 8, also of what is below 0)");
        int[][] due = {{8, 8}, {9, 0}, {10, 1}, {17, 8}, {18, 0}, {9998, 8}, {9999, 0}, {-1, 8}, {-2, 7}, {-8, 1}, {-9, 0}, {-10, 8}, {-18, 0}, {-9999, 0}};
        for (int[] row : due) {
            String sum = row[0] < 0 ? "0-" + -row[0] : "" + row[0];
            WildHunt x = Hand.over(MIDDLE + "rides " + sum + ";");
            due("rides " + sum + " column", x.hunt(1, 0), FROM_MIDDLE[row[1]][0]);
            due("rides " + sum + " row", x.hunt(1, 1), FROM_MIDDLE[row[1]][1]);
        }
    }

    private static void withoutRides() {
        Hand.at("3 without rides");
        path(MIDDLE, "11 21 22 12");
        path("land 7 by 2 hunt 0 0;", "00 10 20 30 40 50 60 61 51 61 51 61");
        path("land 7 by 2 hunt 0 0;rides 3;", "00 10 20 30 40 50 60 61 51 61 51 61");
    }

    private static void hourByHour() {
        Hand.at("by the HOUR it is");
        path("land 7 by 7 hunt 3 3;rides hour;", "33 33 32 41 51 62 63 54 44 33 33 32");
    }

    private static void whereItIs() {
        Hand.at("column; row: where it is");
        path("land 7 by 7 hunt 0 0;rides 3+column/6*2;", "00 10 20 30 40 50 60 61 62 63 64 65");
        path("land 7 by 7 hunt 0 0;rides 5-row/6*2;", "00 01 02 03 04 05 06 16 26 36 46 56");
        path("land 7 by 7 hunt 6 6;rides 7+(1-min(1,column))*3;", "66 56 46 36 26 16 06 05 04 03 02 01");
    }

    private static void lastHour() {
        Hand.at("a NIGHT has HOURS 0 .. 11");
        // The last way is gone from HOUR 10 to HOUR 11; what rides tells of HOUR 11 leads nowhere.
        path("land 3 by 3 hunt 0 0;rides hour/10*3;", "00 00 00 00 00 00 00 00 00 00 00 10");
        path("land 3 by 3 hunt 0 0;rides hour/11*3;", "00 00 00 00 00 00 00 00 00 00 00 00");
        path("land 3 by 3 hunt 0 0;rides 3*(1-min(1,hour));", "00 10 10 10 10 10 10 10 10 10 10 10");
        WildHunt x = Hand.over("land 3 by 3 hunt 0 0;rides hour/10*3;");
        due("first HOUR there", x.cell(1, 0, 2), 11);
        due("never there", x.cell(2, 0, 2), NONE);
        Hand.within("hunt", 0, 11, hour -> x.hunt(hour, 0));
    }

    private static void leavesTheLand() {
        Hand.at("if that leaves the LAND, by the next WAY by the clock");
        // From each corner by each way 1 .. 8.
        corner("0 0", "10 10 10 11 01 10 10 10");
        corner("2 0", "21 21 21 21 21 11 10 21");
        corner("2 2", "21 12 12 12 12 12 12 11");
        corner("0 2", "01 11 12 01 01 01 01 01");
        // Columns and rows are not the same.
        path("land 2 by 4 hunt 0 0;rides 3;", "00 10 11 12 13 03 13");
        path("land 4 by 2 hunt 0 0;rides 5;", "00 01 00 01 00 01");
    }

    private static void corner(String begin, String cells) {
        String[] due = cells.split(" ");
        for (int way = 1; way <= 8; way++) {
            WildHunt x = Hand.over("land 3 by 3 hunt " + begin + ";rides " + way + ";");
            String is = "" + x.hunt(1, 0) + x.hunt(1, 1);
            due("from " + begin + " by " + way + " to " + is + ", due is " + due[way - 1], is.equals(due[way - 1]), true);
        }
    }

    private static void clockTurnsOver() {
        Hand.at("8 is followed by 1");
        path("land 2 by 2 hunt 0 1;rides 8;", "01 00 10 11 00 10 11 00 10 11 00 10");
        path("land 2 by 2 hunt 0 1;rides 6;", "01 00 10 01 00 10 01");
    }

    private static void comesToAChapel() {
        Hand.at("or comes to a CHAPEL, by the next WAY by the clock");
        path("land 3 by 3 hunt 0 1;chapel 1 1;", "01 12 22 12 22");
        path("land 3 by 3 hunt 0 1;chapel 1 1;chapel 1 2;", "01 02 01 02");
        path("land 3 by 3 hunt 0 1;chapel 1 1;chapel 1 2;chapel 0 2;", "01 00 10 20 21 22 21");
        // Next to a CHAPEL is no bar.
        path("land 3 by 3 hunt 0 1;chapel 1 0;chapel 1 2;", "01 11 21 22 11 21");
    }

    private static void nextToARungBell() {
        Hand.at("or next to a BELL that is RUNG or onto it, by the next WAY by the clock");
        WildHunt x = Hand.over("land 7 by 7 hunt 0 3;bell b at 3 3 rope 1;");
        path(x, "03 13 23 33 43 53 63 64 65 66 56 66");
        x.ring(0, 1);
        path(x, "03 13 14 25 35 45 55 65 66 56 66 56");
        x.ring(0, 0);
        path(x, "03 13 23 33 43 53 63 64 65 66 56 66");
        // Of two BELLS the one that is RUNG counts.
        WildHunt y = Hand.over("land 7 by 7 hunt 0 3;bell a at 6 0 rope 1;bell b at 3 3 rope 1;");
        y.ring(0, 1);
        path(y, "03 13 23 33 43 53 63 64");
        y.ring(1, 1);
        path(y, "03 13 14 25 35 45 55 65");
        // A corner of the CELLS around it is next to it.
        WildHunt z = Hand.over("land 7 by 7 hunt 0 0;rides 4;bell b at 3 3 rope 1;");
        z.ring(0, 1);
        path(z, "00 11 12 13 14 25 36 26 16 06 05");
    }

    private static void noneOfTheEight() {
        Hand.at("it stays, if none of the eight can be, and by WAY 0");
        String shut = "chapel 0 0;chapel 1 0;chapel 2 0;chapel 0 1;chapel 2 1;chapel 0 2;chapel 1 2;chapel 2 2;";
        for (int way = 0; way <= 8; way++) {
            path(MIDDLE + shut + "rides " + way + ";", "11 11 11 11 11 11 11 11 11 11 11 11");
        }
        path(MIDDLE + "rides 0;", "11 11 11 11 11 11 11 11 11 11 11 11");
        path(MIDDLE + "rides hour/2*3;", "11 11 11 21");
        WildHunt x = Hand.over(MIDDLE + "bell b at 1 1 rope 1;");
        x.ring(0, 1);
        path(x, "11 11 11 11 11 11 11 11 11 11 11 11");
    }

    private static void oneOfTheEight() {
        Hand.at("by the next WAY by the clock, and so on: the one CELL that is left, from each WAY");
        for (int open = 1; open <= 8; open++) {
            StringBuilder shut = new StringBuilder();
            for (int way = 1; way <= 8; way++) {
                if (way != open) {
                    shut.append("chapel ").append(FROM_MIDDLE[way][0]).append(' ').append(FROM_MIDDLE[way][1]).append(';');
                }
            }
            String there = "" + FROM_MIDDLE[open][0] + FROM_MIDDLE[open][1];
            for (int way = 1; way <= 8; way++) {
                path(MIDDLE + shut + "rides " + way + ";", "11 " + there + " 11 " + there);
            }
        }
    }

    private static void notAskedWhereItIs() {
        Hand.at("where it is at HOUR 0, and stays, is not asked");
        WildHunt x = Hand.over("land 7 by 2 hunt 1 0;bell b at 0 0 rope 1;");
        x.ring(0, 1);
        due("it begins next to a RUNG BELL", x.cell(1, 0, 1), 1);
        path(x, "10 20 30 40 50 60 61 51 61 51 61 51");
        WildHunt y = Hand.over("land 7 by 2 hunt 1 0;rides 0;bell b at 1 0 rope 1;");
        y.ring(0, 1);
        path(y, "10 10 10 10 10 10 10 10 10 10 10 10");
    }

    private static void howFar() {
        Hand.at("how far one CELL is from another one is the greater of columns and rows between");
        String head = "land 7 by 7 hunt 2 3;rides 0;walker w from ";
        int[][] due = {{2, 3, 0}, {3, 4, 1}, {1, 2, 1}, {2, 5, 2}, {0, 3, 2}, {6, 4, 4}, {3, 0, 3}, {6, 6, 4}, {0, 0, 3}, {6, 0, 4}, {0, 6, 3}};
        for (int[] row : due) {
            WildHunt x = Hand.over(head + row[0] + " " + row[1] + " to 0 0 does 0;");
            due("from " + row[0] + " " + row[1], Hand.ask(x, "total near 0"), row[2]);
        }
    }

    // ---- WALKERS

    /** The HUNT stays on one CELL after the other: the HOURS in which the WALKER comes there are due. */
    private static void walks(String fromTo, int[][] hours) {
        for (int row = 0; row < 7; row++) {
            for (int column = 0; column < 7; column++) {
                int due = NONE;
                for (int hour = 0; hour < hours.length; hour++) {
                    due = due == NONE && hours[hour][0] == column && hours[hour][1] == row ? hour : due;
                }
                WildHunt x = Hand.over("land 7 by 7 hunt " + column + " " + row + ";rides 0;walker w from " + fromTo + " does 2;");
                due(fromTo + " comes to " + column + " " + row, x.meets(0), due);
            }
        }
    }

    private static void walkerGoesNearer() {
        Hand.at("he goes a CELL nearer to his goal, column and row by themselves, until he is there");
        walks("0 0 to 3 1", new int[][] {{0, 0}, {1, 1}, {2, 1}, {3, 1}});
        walks("6 5 to 5 2", new int[][] {{6, 5}, {5, 4}, {5, 3}, {5, 2}});
        walks("0 6 to 6 0", new int[][] {{0, 6}, {1, 5}, {2, 4}, {3, 3}, {4, 2}, {5, 1}, {6, 0}});
        walks("6 6 to 0 0", new int[][] {{6, 6}, {5, 5}, {4, 4}, {3, 3}, {2, 2}, {1, 1}, {0, 0}});
        walks("2 2 to 2 2", new int[][] {{2, 2}});
        walks("1 3 to 6 3", new int[][] {{1, 3}, {2, 3}, {3, 3}, {4, 3}, {5, 3}, {6, 3}});
        walks("4 6 to 4 5", new int[][] {{4, 6}, {4, 5}});
    }

    private static void untilHeIsThere() {
        Hand.at("until he is there: there he stays");
        // He is at 1 1 from HOUR 1 on; the HUNT comes there from 0 1 in HOUR 9, in HOUR 11.
        due("HOUR 9", Hand.over("land 3 by 3 hunt 0 1;rides hour/8*3;walker w from 0 0 to 1 1 does 2;").meets(0), 9);
        due("HOUR 11", Hand.over("land 3 by 3 hunt 0 1;rides hour/10*3;walker w from 0 0 to 1 1 does 2;").meets(0), 11);
        due("never", Hand.over("land 3 by 3 hunt 0 1;rides hour/11*3;walker w from 0 0 to 1 1 does 2;").meets(0), NONE);
    }

    private static void meetsFirstAndLastHour() {
        Hand.at("he MEETS the HUNT in an HOUR in which both are on one CELL");
        due("HOUR 0", Hand.over(TWO + "walker w from 0 0 to 1 1 does 2;").meets(0), 0);
        due("HOUR 11", Hand.over(TWO + "rides hour/10*3;walker w from 1 0 to 1 0 does 2;").meets(0), 11);
        due("no HOUR 12", Hand.over(TWO + "rides hour/11*3;walker w from 1 0 to 1 0 does 2;").meets(0), NONE);
        // Changing places is not being on one CELL: 0 1 to 1 1 against 1 1 to 0 1.
        due("changed places", Hand.over("land 2 by 2 hunt 0 1;rides 3*(1-min(1,hour));walker w from 1 1 to 0 1 does 2;").meets(0), NONE);
        WildHunt x = Hand.over(TWO + "rides hour/10*3;walker w from 1 0 to 1 0 does 2;");
        due("meetings", x.nights(1), 1);
        due("told HOUR 11", x.told(0, 1), 11);
    }

    private static void meetsOnFirstAndLastCell() {
        Hand.at("he MEETS the HUNT in an HOUR in which both are on one CELL: the first and the last CELL like any other");
        String[] lands = {
            "land 3 by 2 hunt 1 0;rides 7;walker a from 0 0 to 0 0 does 2;",
            "land 3 by 2 hunt 1 1;walker a from 2 1 to 2 1 does 2;",
        };
        for (String land : lands) {
            WildHunt x = Hand.over(land);
            due("meets, " + land, x.meets(0), 1);
            due("later, " + land, x.later(3, 0), 3);
            due("first, " + land, x.first(0), 1);
            due("nights, " + land, x.nights(2), 2);
            due("chance, " + land, x.chance(2), 0);
            due("told, " + land, x.has(9), 4);
            due("HOUR of the last one, " + land, x.told(3, 1), 1);
        }
    }

    private static void liesDown() {
        Hand.at("he who lies down does not");
        WildHunt x = Hand.over(TWO + "walker w from 0 0 to 0 0 does 0;pays 7;keeps all;");
        due("meets", x.meets(0), NONE);
        due("nights", x.nights(100), 0);
        due("met", x.walker(0, 5), 0);
        due("purse", x.walker(0, 6), 0);
        due("gone", x.walker(0, 7), 0);
        for (int manner = 1; manner <= 3; manner++) {
            x.does(0, manner);
            due("meets by manner " + manner, x.meets(0), 0);
        }
        x.does(0, 0);
        due("lies down again", x.meets(0), NONE);
    }

    private static void onceInANight() {
        Hand.at("in a NIGHT he MEETS it once at most, the first time");
        WildHunt x = Hand.over(TWO + "rides 0;walker w from 0 0 to 0 0 does 2;pays 7;");
        due("twelve HOURS on one CELL", x.nights(1), 1);
        due("met", x.walker(0, 5), 1);
        due("paid once", x.walker(0, 6), 7);
        due("told", x.has(9), 1);
        due("the first time", x.told(0, 1), 0);
        // 0 0, 1 0, 1 1, then 0 1 and 1 1 in turn: 1 1 in HOURS 2, 4, 6 ..
        WildHunt y = Hand.over(TWO + "walker w from 1 1 to 1 1 does 3;pays hour;");
        due("meets", y.meets(0), 2);
        due("once", y.nights(1), 1);
        due("pays by the first HOUR", y.walker(0, 6), 2);
        due("told the first HOUR", y.told(0, 1), 2);
    }

    private static void purse() {
        Hand.at("a purse is 0 .. 9999");
        WildHunt x = Hand.over(TWO + "walker w from 0 0 to 0 0 does 2;pays 3333;");
        int[] due = {3333, 6666, 9999, 9999};
        for (int k = 0; k < 4; k++) {
            x.nights(1);
            due("behind NIGHT " + k, x.walker(0, 6), due[k]);
        }
        WildHunt y = Hand.over(TWO + "walker w from 0 0 to 0 0 does 2;pays 1;");
        set(y, 0, 0, 2, 0, 9998, 0);
        y.nights(1);
        due("9998 and 1", y.walker(0, 6), 9999);
        y.nights(1);
        due("9999 and 1", y.walker(0, 6), 9999);
        WildHunt z = Hand.over(TWO + "walker w from 0 0 to 0 0 does 2;pays 9999*9999;");
        z.nights(1);
        due("10 to the 6", z.walker(0, 6), 9999);
        due("in all purses", z.has(8), 9999);
    }

    private static void paysBelowZero() {
        Hand.at("below 0 he pays; a purse is 0 .. 9999");
        WildHunt x = Hand.over(TWO + "walker w from 0 0 to 0 0 does 2;pays 0-5;");
        x.nights(1);
        due("0 less 5", x.walker(0, 6), 0);
        for (int purse : new int[] {4, 5, 6, 9999}) {
            set(x, 0, 0, 2, 0, purse, 0);
            x.nights(1);
            due(purse + " less 5", x.walker(0, 6), Math.max(0, purse - 5));
        }
        WildHunt y = Hand.over(TWO + "walker w from 0 0 to 0 0 does 2;pays 0-9999*9999;");
        set(y, 0, 0, 2, 0, 9999, 0);
        y.nights(1);
        due("9999 less 10 to the 6", y.walker(0, 6), 0);
    }

    private static void paysWithout() {
        Hand.at("he is paid the SUM of pays (0 without)");
        WildHunt x = Hand.over(TWO + "walker w from 0 0 to 0 0 does 2;");
        due("met", x.nights(3), 3);
        due("purse", x.walker(0, 6), 0);
        set(x, 0, 0, 2, 0, 77, 0);
        x.nights(3);
        due("what he had", x.walker(0, 6), 77);
    }

    private static void paysByNightAndManner() {
        Hand.at("the HOUR, the NIGHT; his MANNER, how often he MET it ahead, his purse");
        WildHunt x = Hand.over(TWO + "walker w from 0 0 to 0 0 does 2;pays night;");
        x.nights(1);
        due("NIGHT 0", x.walker(0, 6), 0);
        set(x, 998, 0, 2, 0, 0, 0);
        x.nights(1);
        due("NIGHT 998", x.walker(0, 6), 998);
        WildHunt y = Hand.over(TWO + "rides hour/10*3;walker w from 1 0 to 1 0 does 3;pays manner*1000+hour*10+met-9998;");
        set(y, 0, 0, 3, 9999, 0, 0);
        y.nights(1);
        due("MANNER 3, HOUR 11, MET 9999", y.walker(0, 6), 3111);
        WildHunt z = Hand.over(TWO + "walker w from 0 0 to 0 0 does 3;keeps night=998 and manner=3 and hour=0 and met=9999 and purse=9999;");
        set(z, 998, 0, 3, 9999, 9999, 0);
        z.nights(1);
        due("KEPT by all of them", z.told(0, 3), 1);
        set(z, 998, 0, 2, 9999, 9999, 0);
        z.nights(1);
        due("another MANNER", z.told(0, 3), 0);
        set(z, 997, 0, 3, 9999, 9999, 0);
        z.nights(1);
        due("another NIGHT", z.told(0, 3), 0);
    }

    private static void answersIsKept() {
        Hand.at("who answers is KEPT for a year");
        for (String keeps : new String[] {"", "keeps not all;", "keeps all;"}) {
            WildHunt x = Hand.over(TWO + "walker w from 0 0 to 0 0 does 1;year 7;" + keeps);
            x.nights(1);
            due("gone, " + keeps, x.walker(0, 7), 7);
            due("told, " + keeps, x.told(0, 3), 1);
        }
    }

    private static void keepsWithout() {
        Hand.at("another one is KEPT, if the TEST of keeps holds (without it never)");
        for (int manner = 2; manner <= 3; manner++) {
            String text = TWO + "walker w from 0 0 to 0 0 does " + manner + ";year 7;";
            WildHunt without = Hand.over(text);
            due("without", without.nights(50), 50);
            due("without", without.later(50, 3), 0);
            due("told", without.told(0, 3), 0);
            WildHunt holds = Hand.over(text + "keeps all;");
            holds.nights(1);
            due("holds", holds.walker(0, 7), 7);
            due("told", holds.told(0, 3), 1);
            WildHunt fails = Hand.over(text + "keeps not all;");
            due("fails", fails.nights(50), 50);
            due("told", fails.told(0, 3), 0);
        }
    }

    private static void keepsByPurseAhead() {
        Hand.at("by his purse ahead of it; how often he MET it ahead");
        WildHunt x = Hand.over(TWO + "walker w from 0 0 to 0 0 does 2;pays 10;keeps purse=10;year 2;");
        x.nights(1);
        due("10 behind, 0 ahead: not KEPT", x.told(0, 3), 0);
        x.nights(1);
        due("10 ahead: KEPT", x.told(1, 3), 1);
        due("paid as well", x.walker(0, 6), 20);
        WildHunt y = Hand.over(TWO + "walker w from 0 0 to 0 0 does 2;pays 100+met*10;keeps met=1;year 2;");
        y.nights(1);
        due("met 0 ahead: not KEPT", y.told(0, 3), 0);
        due("pays by met 0", y.walker(0, 6), 100);
        y.nights(1);
        due("met 1 ahead: KEPT", y.told(1, 3), 1);
        due("pays by met 1", y.walker(0, 6), 210);
        WildHunt z = Hand.over(TWO + "walker w from 0 0 to 0 0 does 2;pays purse+1;");
        z.nights(4);
        due("pays by the purse ahead: 1, 3, 7, 15", z.walker(0, 6), 15);
    }

    private static void goneThisNightNotCounted() {
        Hand.at("KEPT he is GONE for so many NIGHTS, this one not counted");
        WildHunt x = Hand.over(TWO + "walker w from 0 0 to 0 0 does 1;year 1;");
        int[] met = {1, 0, 1, 0, 1};
        int[] gone = {1, 0, 1, 0, 1};
        for (int k = 0; k < 5; k++) {
            due("meetings of NIGHT " + k, x.nights(1), met[k]);
            due("gone behind NIGHT " + k, x.walker(0, 7), gone[k]);
        }
        WildHunt y = Hand.over(TWO + "walker w from 0 0 to 0 0 does 1;year 99;");
        due("NIGHT 0 to 98", y.nights(99), 1);
        due("one more", y.walker(0, 7), 1);
        due("NIGHT 99", y.nights(1), 0);
        due("none more", y.walker(0, 7), 0);
        due("NIGHT 100", y.nights(1), 1);
    }

    private static void goneInStorms() {
        Hand.at("storm or not, each NIGHT is one less");
        WildHunt x = Hand.over(TWO + "walker w from 0 0 to 0 0 does 1;year 3;storm 100;");
        x.nights(1);
        for (int left = 2; left >= 0; left--) {
            due("storm", x.chance(1), 1);
            due("gone", x.walker(0, 7), left);
        }
        due("storm", x.chance(1), 1);
        due("not below 0", x.walker(0, 7), 0);
        due("met in no storm", x.walker(0, 5), 1);
        WildHunt y = Hand.over(TWO + "walker w from 0 0 to 0 0 does 1;year 3;storm 0;");
        y.chance(1);
        due("KEPT by chance", y.walker(0, 7), 3);
        y.chance(2);
        due("gone", y.walker(0, 7), 1);
    }

    private static void goneMeetsNothing() {
        Hand.at("KEPT he is GONE: he does not walk, MEETS nothing");
        WildHunt x = Hand.over(TWO + "walker w from 0 0 to 0 0 does 2;pays 5;");
        set(x, 0, 0, 2, 0, 0, 1);
        due("meets", x.meets(0), NONE);
        due("hour", Hand.ask(x, "total hour"), 12);
        due("nights", x.nights(1), 0);
        due("not paid", x.walker(0, 6), 0);
        due("back", x.meets(0), 0);
        due("hour", Hand.ask(x, "total hour"), 0);
        due("nights", x.nights(1), 1);
        // GONE he can get another MANNER.
        set(x, 0, 0, 2, 0, 0, 5);
        due("does", x.does(0, 1), true);
        due("gone all the same", x.walker(0, 7), 5);
    }

    // ---- NIGHTS

    private static void nightsBy999() {
        Hand.at("the NIGHT is one more (999 at most)");
        String text = "land 3 by 3 hunt 0 0;walker w from 0 0 to 0 0 does 2;rides night/999*3;storm 100;";
        WildHunt x = Hand.over(text);
        set(x, 998, 0, 2, 0, 0, 0);
        path(x, "00 00");
        due("two", x.nights(2), NONE);
        due("two", x.chance(2), NONE);
        due("status 3", x.status(3), 2);
        due("NIGHT stays", x.has(5), 998);
        due("one", x.nights(1), 1);
        due("NIGHT 999", x.has(5), 999);
        due("told", x.told(0, 0), 998);
        path(x, "00 10");
        due("no more", x.nights(1), NONE);
        due("no more", x.nights(100), NONE);
        due("no storm more", x.chance(1), NONE);
        due("status 3", x.status(3), 5);
        due("NIGHT stays", x.has(5), 999);
        due("undo", x.undo(), true);
        due("NIGHT 998", x.has(5), 998);
        due("a storm", x.chance(1), 1);
        due("NIGHT 999", x.has(5), 999);
        WildHunt y = Hand.over(text);
        set(y, 899, 0, 2, 0, 0, 0);
        due("100 from 899", y.nights(100), 100);
        due("NIGHT 999", y.has(5), 999);
        WildHunt z = Hand.over(text);
        set(z, 900, 0, 2, 0, 0, 0);
        due("100 from 900", z.nights(100), NONE);
        due("99 from 900", z.chance(99), 99);
        due("NIGHT 999", z.has(5), 999);
    }

    private static void metAtMost() {
        Hand.at("how often he MET it (9999 at most)");
        WildHunt x = Hand.over(TWO + "walker w from 0 0 to 0 0 does 2;");
        set(x, 0, 0, 2, 9998, 0, 0);
        due("one", x.nights(1), 1);
        due("9999", x.walker(0, 5), 9999);
        due("is counted all the same", x.nights(3), 3);
        due("9999", x.walker(0, 5), 9999);
        due("asked", Hand.ask(x, "total met"), 9999);
    }

    private static void told40() {
        Hand.at("TOLD is each meeting; the last 40");
        WildHunt x = Hand.over(TWO + "walker w from 0 0 to 0 0 does 2;");
        x.nights(39);
        due("39", x.has(9), 39);
        due("beyond", x.told(39, 0), NONE);
        x.nights(1);
        due("40", x.has(9), 40);
        due("oldest", x.told(0, 0), 0);
        due("newest", x.told(39, 0), 39);
        x.nights(1);
        due("40 of 41", x.has(9), 40);
        due("oldest", x.told(0, 0), 1);
        due("newest", x.told(39, 0), 40);
        due("beyond", x.told(40, 0), NONE);
        x.nights(100);
        due("40 of 141", x.has(9), 40);
        for (int k = 0; k < 40; k++) {
            due("told " + k, x.told(k, 0), 101 + k);
        }
        due("undo", x.undo(), true);
        due("as it was", x.told(0, 0), 1);
        due("as it was", x.told(39, 0), 40);
        // The greatest of each: NIGHT 998, HOUR 11, WALKER 5, KEPT.
        StringBuilder six = new StringBuilder(TWO + "rides hour/10*3;");
        int[] image = new int[3 + 36];
        image[0] = 3;
        image[1] = 230;
        for (int k = 0; k < 6; k++) {
            six.append("walker w").append((char) ('a' + k)).append(" from 1 0 to 1 0 does 1;");
            image[3 + 6 * k] = 1;
        }
        WildHunt y = Hand.over(six.toString());
        Hand.put(y, Hand.checked(image));
        due("on", y.on(), true);
        due("six meetings", y.nights(1), 6);
        int[] row = {998, 11, 5, 1};
        for (int what = 0; what < 4; what++) {
            due("told 5 " + what, y.told(5, what), row[what]);
        }
    }

    private static void toldByNumbers() {
        Hand.at("WALKERS by numbers MEET it");
        WildHunt x = Hand.over(TWO + "walker late from 1 1 to 1 1 does 2;walker soon from 1 0 to 1 0 does 1;walker first from 0 0 to 0 0 does 3;");
        due("three", x.nights(1), 3);
        int[][] due = {{0, 2, 0, 0}, {0, 1, 1, 1}, {0, 0, 2, 0}};
        for (int k = 0; k < 3; k++) {
            for (int what = 0; what < 4; what++) {
                due("told " + k + " " + what, x.told(k, what), due[k][what]);
            }
        }
    }

    private static void undone20() {
        Hand.at("the last 20 can be undone");
        WildHunt x = Hand.over(TWO + "walker w from 0 0 to 0 0 does 2;");
        for (int k = 1; k <= 25; k++) {
            due("nights", x.nights(1), 1);
            due("acts", x.has(11), Math.min(20, k));
        }
        for (int k = 24; k >= 5; k--) {
            due("undo", x.undo(), true);
            due("NIGHT", x.has(5), k);
            due("told", x.has(9), k);
            due("acts", x.has(11), k - 5);
        }
        due("no 21st", x.undo(), false);
        due("NIGHT", x.has(5), 5);
        due("status 4", x.status(4), 1);
        due("an act", x.does(0, 3), true);
        due("can be undone", x.undo(), true);
        due("manner", x.walker(0, 4), 2);
        due("no more", x.undo(), false);
    }

    private static void draws() {
        Hand.at("a DRAW of 100: below storm the HUNT does not ride; x becomes (1103515245 x + 12345) mod 2 to the 31");
        // 1: 1103527590, its 64th part 17242618. 0: 12345, 192. 2 to the 31 less 1: 1043980748, 16312199.
        drawn(1, 18);
        drawn(0, 92);
        drawn(Integer.MAX_VALUE, 99);
        // 17: 1579902326, its 64th part 24685973. 64: 1905511289, 29773613.
        drawn(17, 73);
        drawn(64, 13);
        // A seed that is drawn goes on from there: one draw of 1 is the seed 1103527590.
        WildHunt x = Hand.over(TWO + "storm 50;");
        x.chance(1);
        WildHunt y = Hand.over(TWO + "storm 50;");
        y.seed(1103527590);
        due("goes on", x.chance(60), y.chance(60));
        due("storm 0: never", Hand.over(TWO + "storm 0;").chance(100), 0);
        due("storm 100: always", Hand.over(TWO + "storm 100;").chance(100), 100);
    }

    private static void drawn(int seed, int draw) {
        WildHunt x = Hand.over(TWO + "storm " + draw + ";");
        x.seed(seed);
        due("seed " + seed + " draws " + draw + ", not below it", x.chance(1), 0);
        WildHunt y = Hand.over(TWO + "storm " + (draw + 1) + ";");
        y.seed(seed);
        due("seed " + seed + " draws " + draw + ", below one more", y.chance(1), 1);
    }

    // ---- SAFE ways

    private static void safeFromHome() {
        Hand.at("a SAFE way begins at HOUR 0 at home, is never on one CELL with the HUNT");
        due("home is goal", Hand.over(TWO + "walker w from 1 1 to 1 1 does 2;").safe(0), 0);
        due("where it begins", Hand.over(TWO + "walker w from 0 0 to 0 0 does 2;").safe(0), NONE);
        due("from where it begins", Hand.over(TWO + "walker w from 0 0 to 1 1 does 2;").safe(0), NONE);
        due("who lies down, too", Hand.over(TWO + "walker w from 0 0 to 1 1 does 0;").safe(0), NONE);
        // Next to it at HOUR 0, where it goes in HOUR 1: he must leave 1 0.
        due("leaves in time", Hand.over(TWO + "walker w from 1 0 to 0 1 does 2;").safe(0), 1);
        // The goal is where the HUNT is in HOUR 1.
        due("not onto it", Hand.over("land 3 by 3 hunt 0 0;walker w from 2 1 to 1 0 does 2;").safe(0), 2);
    }

    private static void safeChangesPlaces() {
        Hand.at("a SAFE way never changes places with it");
        // 0 0 to 1 0 in HOUR 1, then it stays: from 1 0 to 0 0 not at once.
        due("round it", Hand.over(TWO + "rides 3*(1-min(1,hour));walker w from 1 0 to 0 0 does 2;").safe(0), 2);
        due("from elsewhere at once", Hand.over(TWO + "rides 3*(1-min(1,hour));walker w from 1 1 to 0 0 does 2;").safe(0), 1);
        due("in HOUR 11, by another CELL", Hand.over(TWO + "rides hour/10*3;walker w from 1 0 to 0 0 does 2;").safe(0), 11);
    }

    private static void safeWaits() {
        Hand.at("a SAFE way goes to a CELL next to the one before (8), or stays");
        // It stays on the goal until HOUR 4 and is off it in HOUR 5.
        due("waits", Hand.over("land 3 by 3 hunt 0 0;rides hour/4*3;walker w from 0 1 to 0 0 does 2;").safe(0), 5);
        due("stands still for a NIGHT", Hand.over("land 3 by 3 hunt 0 0;rides hour/10*3;walker w from 1 1 to 0 0 does 2;").safe(0), 11);
    }

    private static void safeHours() {
        Hand.at("the HOUR in which he can be at his goal first; NONE when in none");
        due("HOUR 10", Hand.over(TWO + "rides hour/9*3;walker w from 1 1 to 0 0 does 2;").safe(0), 10);
        due("HOUR 11", Hand.over(TWO + "rides hour/10*3;walker w from 1 1 to 0 0 does 2;").safe(0), 11);
        due("no HOUR 12", Hand.over(TWO + "rides hour/11*3;walker w from 1 1 to 0 0 does 2;").safe(0), NONE);
        WildHunt x = Hand.over(TWO + "walker w from 1 1 to 1 1 does 1;");
        set(x, 0, 0, 1, 0, 0, 9);
        due("GONE or not", x.safe(0), 0);
    }

    private static void safeDiagonal() {
        Hand.at("a CELL next to the one before (8)");
        String far = "land 7 by 7 hunt 0 3;rides 0;walker w from ";
        due("six", Hand.over(far + "0 0 to 6 6 does 2;").safe(0), 6);
        due("six back", Hand.over(far + "6 0 to 0 6 does 2;").safe(0), 6);
        due("straight", Hand.over(far + "6 0 to 6 6 does 2;").safe(0), 6);
        // Straight down it would go through 0 3; slantwise round it it is no longer.
        due("round it", Hand.over(far + "0 0 to 0 6 does 2;").safe(0), 6);
        due("by one", Hand.over(far + "5 5 to 4 6 does 2;").safe(0), 1);
        // CHAPELS and RUNG BELLS are no bar to a WALKER.
        WildHunt x = Hand.over("land 3 by 2 hunt 0 0;rides 0;chapel 1 1;chapel 1 0;bell b at 2 1 rope 1;walker w from 2 1 to 0 1 does 2;");
        x.ring(0, 1);
        due("through CHAPELS", x.safe(0), 2);
    }

    // ---- PEALS

    private static void pealOfNone() {
        Hand.at("a PEAL is a set of BELLS that leaves no WALKER MEETING the HUNT; NONE when there is none");
        due("no WALKERS, no BELLS", Hand.over(TWO).peal(), 0);
        due("no BELLS", Hand.over(TWO + "walker w from 0 0 to 0 0 does 2;").peal(), NONE);
        due("none is met", Hand.over("land 3 by 3 hunt 0 0;rides 0;bell b at 2 2 rope 1;walker w from 1 1 to 1 1 does 2;").peal(), 0);
        due("met where it begins", Hand.over(TWO + "bell a at 0 0 rope 1;bell b at 1 1 rope 1;walker w from 0 0 to 0 0 does 2;").peal(), NONE);
        due("without a land", new WildHunt().peal(), NONE);
        StringBuilder five = new StringBuilder(TWO + "walker w from 0 0 to 0 0 does 2;");
        for (char c = 'a'; c <= 'e'; c++) {
            five.append("bell ").append(c).append(" at 1 1 rope 1;");
        }
        due("five in vain", Hand.over(five.toString()).peal(), NONE);
        StringBuilder six = new StringBuilder("land 3 by 3 hunt 0 0;rides 0;");
        for (char c = 'a'; c <= 'f'; c++) {
            six.append("walker ").append(c).append(" from 1 1 to 2 2 does 2;");
        }
        due("six, of whom none is met", Hand.over(six.toString()).peal(), 0);
        due("six, of whom the last is met", Hand.over(six.toString().replace("walker f from 1 1", "walker f from 0 0")).peal(), NONE);
    }

    private static void pealFewestThenLeast() {
        Hand.at("of the fewest BELLS, of like ones the least bits");
        // It goes right along row 1 to the WALKER at 6 1; each BELL around there turns it away.
        String text = "land 7 by 5 hunt 0 1;walker w from 6 1 to 6 1 does 2;";
        due("the first of like ones", Hand.over(text + "bell a at 6 0 rope 1;bell b at 6 1 rope 1;bell c at 6 2 rope 1;").peal(), 1);
        due("the first that does", Hand.over(text + "bell a at 0 4 rope 1;bell b at 6 1 rope 1;bell c at 6 2 rope 1;").peal(), 2);
        due("the fifth alone", Hand.over(text + "bell a at 0 4 rope 1;bell b at 1 4 rope 1;bell c at 2 4 rope 1;bell d at 3 4 rope 1;bell e at 6 1 rope 1;")
            .peal(), 16);
        // a turns it from p to q, b turns it from q: alone neither does; c, of greater bits, does alone.
        String two = "land 7 by 7 hunt 0 3;bell a at 1 2 rope 1;bell b at 4 4 rope 1;walker p from 1 3 to 1 3 does 2;walker q from 3 4 to 3 4 does 3;";
        due("two together", Hand.over(two).peal(), 3);
        due("one of greater bits", Hand.over(two + "bell c at 2 4 rope 1;").peal(), 4);
    }

    private static void pealOfThoseWhoWalk() {
        Hand.at("no WALKER (who is not GONE) MEETING the HUNT; RUNG alone in this NIGHT");
        WildHunt x = Hand.over(TWO + "bell b at 0 0 rope 1;walker w from 0 0 to 0 0 does 2;");
        due("met", x.peal(), NONE);
        set(x, 0, 0, 2, 0, 0, 1);
        due("GONE", x.peal(), 0);
        set(x, 0, 0, 0, 0, 0, 0);
        due("lies down", x.peal(), 0);
        // What is RUNG now is not RUNG in a PEAL: b alone keeps the HUNT at home.
        WildHunt y = Hand.over("land 3 by 3 hunt 0 0;rides 3*(1-min(1,hour));bell b at 2 0 rope 1;walker w from 0 1 to 0 1 does 2;");
        due("it goes to 1 0, none is met", y.peal(), 0);
        y.ring(0, 1);
        due("turned to 0 1 it meets him", y.meets(0), 1);
        due("RUNG alone", y.peal(), 0);
    }

    /** Five BELLS, of which a PEAL as well as REST needs all. */
    private static final String FIVE = "land 7 by 7 hunt 4 0;bell a at 5 2 rope 1;bell b at 4 5 rope 1;bell c at 1 2 rope 1;bell d at 1 5 rope 1;"
        + "bell e at 6 0 rope 1;walker p from 6 4 to 6 4 does 2;walker q from 5 0 to 5 0 does 2;walker r from 2 4 to 2 4 does 2;"
        + "walker s from 2 3 to 2 3 does 2;";

    private static void ringAlone(WildHunt x, int bells, int count) {
        for (int k = 0; k < count; k++) {
            if (x.bell(k, 3) != (bells >> k & 1)) {
                due("ring", x.ring(k, bells >> k & 1), true);
            }
        }
    }

    private static void pealOfFive() {
        Hand.at("a PEAL of all BELLS there can be");
        WildHunt x = Hand.over(FIVE);
        due("all five", x.peal(), 31);
        for (int bells = 0; bells < 32; bells++) {
            ringAlone(x, bells, 5);
            boolean met = x.meets(0) != NONE || x.meets(1) != NONE || x.meets(2) != NONE || x.meets(3) != NONE;
            due("by " + bells, met, bells != 31);
        }
    }

    // ---- what parishes lose, REST

    private static void losesWithinOne() {
        Hand.at("the parish loses harm if the HUNT is no further than 1 from it");
        String text = "land 7 by 7 hunt 3 3;rides 0;harm 5;bell b at ";
        for (int row = 0; row < 7; row++) {
            for (int column = 0; column < 7; column++) {
                boolean near = Math.abs(column - 3) <= 1 && Math.abs(row - 3) <= 1;
                due("at " + column + " " + row, Hand.over(text + column + " " + row + " rope 1;").bell(0, 4), near ? 5 : 0);
            }
        }
    }

    private static void losesInEachHour() {
        Hand.at("in each NIGHT in which the HUNT is on any HOUR no further than 1 from it");
        // It is at 0 0 until HOUR 10, at 1 0 in HOUR 11.
        String text = "land 7 by 2 hunt 0 0;rides hour/10*3;harm 5;bell b at ";
        due("in HOUR 0", Hand.over("land 7 by 2 hunt 0 0;rides 3;harm 5;bell b at 0 1 rope 1;").bell(0, 4), 5);
        due("in HOUR 11", Hand.over(text + "2 1 rope 1;").bell(0, 4), 5);
        due("in none", Hand.over(text + "3 1 rope 1;").bell(0, 4), 0);
        // In many HOURS, too, harm is lost once.
        due("once", Hand.over(text + "1 1 rope 1;").bell(0, 4), 5);
    }

    private static void losesItsRope() {
        Hand.at("and its rope, if it is RUNG");
        WildHunt x = Hand.over("land 7 by 2 hunt 0 0;rides 0;harm 999;bell a at 0 0 rope 99;bell b at 6 0 rope 99;bell c at 6 1 rope 0;");
        due("near, not RUNG", x.bell(0, 4), 999);
        due("far, not RUNG", x.bell(1, 4), 0);
        x.ring(0, 1);
        x.ring(1, 1);
        x.ring(2, 1);
        due("near, RUNG", x.bell(0, 4), 1098);
        due("far, RUNG", x.bell(1, 4), 99);
        due("a rope of 0", x.bell(2, 4), 0);
        x.ring(1, 0);
        due("no more", x.bell(1, 4), 0);
    }

    private static void restEqual() {
        Hand.at("at REST none would lose less, if it alone did otherwise");
        // It goes right to 4 1 and stays there, unless the BELL at 5 1 is RUNG.
        String text = "land 7 by 3 hunt 0 1;rides 3*max(0,4-hour)/max(1,4-hour);bell a at 5 1 rope 5;";
        due("rope 5, harm 4", Hand.over(text + "harm 4;").rest(), 0);
        due("rope 5, harm 5", Hand.over(text + "harm 5;").rest(), 0);
        due("rope 5, harm 6", Hand.over(text + "harm 6;").rest(), 1);
        due("harm 0", Hand.over(text + "harm 0;").rest(), 0);
        String free = text.replace("rope 5", "rope 0");
        due("rope 0, harm 0: the fewest", Hand.over(free + "harm 0;").rest(), 0);
        due("rope 0, harm 1", Hand.over(free + "harm 1;").rest(), 1);
    }

    private static void restFewestThenLeast() {
        Hand.at("of the fewest BELLS, of like ones the least bits");
        String text = "land 7 by 3 hunt 0 1;rides 3*max(0,4-hour)/max(1,4-hour);harm 6;";
        due("no BELLS", Hand.over(text).rest(), 0);
        due("either one, the least bits", Hand.over(text + "bell a at 5 1 rope 5;bell b at 5 1 rope 5;").rest(), 1);
        due("far off first", Hand.over(text + "bell z at 6 1 rope 0;bell a at 5 1 rope 5;bell b at 5 1 rope 5;").rest(), 2);
        due("a rope like the harm will do", Hand.over(text + "bell a at 5 1 rope 6;bell b at 5 1 rope 5;").rest(), 1);
        due("a dearer one won't", Hand.over(text + "bell a at 5 1 rope 7;bell b at 5 1 rope 5;").rest(), 2);
        // Whatever is RUNG now, in this NIGHT all are asked.
        WildHunt x = Hand.over(text + "bell a at 5 1 rope 5;bell b at 5 1 rope 5;");
        x.ring(1, 1);
        due("whatever is RUNG now", x.rest(), 1);
    }

    private static void restOfFive() {
        Hand.at("REST of all BELLS there can be");
        due("all five", Hand.over(FIVE).rest(), 31);
        int[][] losses = new int[32][5];
        for (int bells = 0; bells < 32; bells++) {
            WildHunt x = Hand.over(FIVE);
            ringAlone(x, bells, 5);
            for (int k = 0; k < 5; k++) {
                losses[bells][k] = x.bell(k, 4);
            }
        }
        for (int bells = 0; bells < 32; bells++) {
            boolean rests = true;
            for (int k = 0; k < 5; k++) {
                rests &= losses[bells][k] <= losses[bells ^ 1 << k][k];
            }
            due("at REST by " + bells, rests, bells == 31);
        }
    }

    private static void restAlways() {
        Hand.at("NONE when no set is, or without a land");
        due("without a land", new WildHunt().rest(), NONE);
        // Some set always is (NOTES.md says why), so that with a LAND there is always an answer.
        for (int k = 0; k < 49; k++) {
            StringBuilder text = new StringBuilder("land 7 by 7 hunt " + k % 7 + " " + k / 7 + ";rides " + k + "+column*3-row;harm 6;");
            for (int b = 0; b < 5; b++) {
                text.append("bell ").append((char) ('a' + b)).append(" at ").append((k + 3 * b) % 7).append(' ').append((2 * k + b) % 7).append(" rope 1;");
            }
            due("of " + k, Hand.over(text.toString()).rest() >= 0, true);
        }
    }

    // ---- CHAPELS MORE

    private static void chapelMoreRowByRow() {
        Hand.at("of like ones the first, row by row");
        // 2 0, 1 1, 0 2: a CHAPEL at 1 1 as one at 0 2 keeps it from the WALKER at 0 2.
        WildHunt x = Hand.over("land 3 by 3 hunt 2 0;rides 6;walker w from 0 2 to 0 2 does 2;");
        due("column", x.chapel(1, 0), 1);
        due("row", x.chapel(1, 1), 1);
        due("fewer", x.chapel(1, 2), 1);
        // Within a row the first column: 1 1 as 2 1, 3 1, 4 1.
        WildHunt y = Hand.over(WIDE + "walker w from 4 1 to 4 1 does 2;");
        due("column", y.chapel(1, 0), 1);
        due("row", y.chapel(1, 1), 1);
    }

    private static void chapelMoreFirstCell() {
        Hand.at("the first, row by row: 0 0, and the last one");
        // 1 1 to 0 0 by WAY 8; with a CHAPEL there it goes up to 1 0.
        WildHunt x = Hand.over("land 2 by 2 hunt 1 1;rides 8*(1-min(1,hour));walker w from 0 0 to 0 0 does 2;");
        due("column", x.chapel(1, 0), 0);
        due("row", x.chapel(1, 1), 0);
        due("fewer", x.chapel(1, 2), 1);
        WildHunt y = Hand.over("land 7 by 7 hunt 5 5;rides 4*(1-min(1,hour));walker w from 6 6 to 6 6 does 2;");
        due("column", y.chapel(1, 0), 6);
        due("row", y.chapel(1, 1), 6);
        due("fewer", y.chapel(1, 2), 1);
    }

    private static void chapelMoreFewest() {
        Hand.at("by which fewest meetings are in n NIGHTS AHEAD");
        // 1 1 turns it to the third WALKER (one meeting instead of two), 2 1 keeps it from all.
        WildHunt x = Hand.over(WIDE + "walker a from 2 1 to 2 1 does 2;walker b from 4 1 to 4 1 does 2;walker c from 1 2 to 1 2 does 2;");
        due("column", x.chapel(1, 0), 2);
        due("row", x.chapel(1, 1), 1);
        due("fewer", x.chapel(1, 2), 2);
        due("fewer in 20", x.chapel(20, 2), 40);
        // One more where it begins is met whatever stands: three without, one with it.
        WildHunt y = Hand.over(WIDE + "walker a from 2 1 to 2 1 does 2;walker b from 4 1 to 4 1 does 2;walker c from 0 1 to 0 1 does 2;");
        due("without", y.later(1, 0), 3);
        due("column", y.chapel(1, 0), 1);
        due("two fewer", y.chapel(1, 2), 2);
        due("two fewer each NIGHT", y.chapel(20, 2), 40);
    }

    private static void chapelMoreIfFewer() {
        Hand.at("if fewer than without; NONE without");
        for (int what = 0; what < 3; what++) {
            due("nobody there", Hand.over(TWO).chapel(1, what), NONE);
            due("none is met", Hand.over(TWO + "walker w from 1 0 to 1 0 does 0;").chapel(20, what), NONE);
            // It is turned from 1 1 to 1 2 and meets the other one instead: as many as before.
            due("as many", Hand.over(WIDE + "rides 3*(1-min(1,hour));walker a from 1 1 to 1 1 does 2;walker b from 1 2 to 1 2 does 2;").chapel(1, what), NONE);
        }
    }

    private static void chapelMoreNotWhereItBegins() {
        Hand.at("a CELL, none yet, not where it begins");
        for (int what = 0; what < 3; what++) {
            due("met where it begins", Hand.over(TWO + "walker w from 0 0 to 0 0 does 2;").chapel(1, what), NONE);
        }
        // It comes back to 0 0 in HOUR 2 and meets him there. A CHAPEL there would do, but can't be; one at 1 0 does as well.
        WildHunt x = Hand.over("land 2 by 2 hunt 0 0;rides (3+4*hour)*max(0,2-hour)/max(1,2-hour);walker w from 0 1 to 0 0 does 2;");
        path(x, "00 10 00 00");
        due("meets", x.meets(0), 2);
        due("column", x.chapel(1, 0), 1);
        due("row", x.chapel(1, 1), 0);
        due("fewer", x.chapel(1, 2), 1);
    }

    private static void chapelMoreBeyondTen() {
        Hand.at("a CHAPEL MORE where there are ten");
        StringBuilder text = new StringBuilder("land 7 by 7 hunt 0 6;walker w from 3 6 to 3 6 does 2;");
        for (int k = 0; k < 10; k++) {
            text.append("chapel ").append(k % 7).append(' ').append(k / 7).append(';');
        }
        WildHunt x = Hand.over(text.toString());
        due("meets", x.meets(0), 3);
        due("column", x.chapel(1, 0), 1);
        due("row", x.chapel(1, 1), 6);
        due("chapels stay", x.has(2), 10);
    }

    // ---- SEEN, TELLING, AHEAD

    private static int see(WildHunt x, int... bytes) {
        Hand.put(x, bytes);
        return x.see();
    }

    private static void seenCells() {
        Hand.at("SEEN: CELLS where it can have begun so that it is there then");
        WildHunt x = Hand.over("land 3 by 2 hunt 0 0;");
        due("nothing SEEN", x.began(0), 6);
        for (int cell = 0; cell < 6; cell++) {
            see(x, 0, cell % 3, cell / 3);
            due("HOUR 0: itself", x.began(0), 1);
            due("HOUR 0: itself", x.began(1), cell);
            due("HOUR 0: itself", x.began(2), cell);
        }
        see(x, 11, 0, 0);
        due("it never comes there", x.began(0), 0);
        due("first", x.began(1), NONE);
        due("last", x.began(2), NONE);
        // It ends in 2 1 and 1 1 in turn: in HOUR 11 at 2 1 from 0 0, 2 0, 1 1, at 1 1 from the others.
        see(x, 11, 2, 1);
        due("HOUR 11 at 2 1", x.began(0), 3);
        due("first", x.began(1), 0);
        due("last", x.began(2), 4);
        see(x, 11, 1, 1);
        due("HOUR 11 at 1 1", x.began(0), 3);
        due("first", x.began(1), 1);
        due("last", x.began(2), 5);
        // Two rows that go together, two that do not.
        see(x, 0, 0, 0, 1, 1, 0);
        due("together", x.began(0), 1);
        see(x, 0, 0, 0, 0, 1, 0);
        due("not together", x.began(0), 0);
        see(x, 0, 0, 0, 0, 0, 0);
        due("the same twice", x.began(0), 1);
    }

    private static void seenChapels() {
        Hand.at("CELLS (but CHAPELS); as the BELLS are RUNG, CHAPELS stand");
        WildHunt x = Hand.over("land 2 by 2 hunt 0 0;chapel 1 1;chapel 0 1;bell b at 0 0 rope 1;");
        due("all but CHAPELS", x.began(0), 2);
        due("first", x.began(1), 0);
        due("last", x.began(2), 1);
        see(x, 0, 1, 1);
        due("a CHAPEL", x.began(0), 0);
        see(x, 11, 0, 0);
        // 0 0 and 1 0 in turn: in HOUR 11 at 0 0 from 1 0; with the BELL it stays at 0 0.
        due("turn by turn", x.began(1), 1);
        x.ring(0, 1);
        due("as the BELLS are RUNG", x.began(1), 0);
        due("one", x.began(0), 1);
        // Next to a RUNG BELL it can have begun all the same.
        Hand.land(x, "land 2 by 2 hunt 0 0;bell b at 0 0 rope 1;");
        x.ring(0, 1);
        due("all", x.began(0), 4);
    }

    private static void telling() {
        Hand.at("TELLING is the HOUR by which the most CELLS left are fewest; of like ones the first; NONE without a CELL");
        WildHunt x = Hand.over("land 7 by 7 hunt 0 0;");
        due("HOUR", x.tells(0), 0);
        due("one at the most", x.tells(1), 1);
        see(x, 11, 6, 6);
        due("HOUR", x.tells(0), 0);
        due("one at the most", x.tells(1), 1);
        see(x, 0, 3, 3);
        due("of like ones the first", x.tells(0), 0);
        see(x, 0, 3, 3, 0, 4, 4);
        due("without a CELL", x.tells(0), NONE);
        due("without a CELL", x.tells(1), NONE);
        // From no CELL of the LAND it comes to 0 1 in HOUR 1; from one below it, if there were one, it would.
        WildHunt y = Hand.over("land 3 by 2 hunt 0 0;");
        see(y, 1, 0, 1);
        due("none leads there", y.began(0), 0);
        due("none leads there", y.tells(0), NONE);
        due("none leads there", y.tells(1), NONE);
        due("without a land", new WildHunt().tells(0), NONE);
        due("without a land", new WildHunt().tells(1), NONE);
    }

    private static void aheadWithoutDraws() {
        Hand.at("AHEAD are NIGHTS as they come from now on without DRAWS");
        WildHunt x = Hand.over(TWO + "walker w from 0 0 to 0 0 does 2;pays 3;storm 100;");
        due("no storms", x.later(60, 0), 60);
        due("no storms", x.first(0), 1);
        // The draws of chance are as if nothing had been looked at.
        WildHunt y = Hand.over(TWO + "walker w from 0 0 to 0 0 does 2;storm 50;");
        WildHunt z = Hand.over(TWO + "walker w from 0 0 to 0 0 does 2;storm 50;");
        y.later(60, 0);
        y.first(0);
        y.chapel(20, 0);
        due("no draws", y.chance(50), z.chance(50));
        due("nothing told by looking", x.has(9), 0);
        due("NIGHT stays", x.has(5), 0);
        due("purse stays", x.walker(0, 6), 0);
    }

    private static void aheadNotBeyond999() {
        Hand.at("AHEAD: 60 at most, not beyond NIGHT 999");
        WildHunt x = Hand.over(TWO + "walker w from 1 0 to 1 0 does 2;");
        set(x, 939, 0, 2, 0, 0, 0);
        due("60 from 939", x.later(60, 0), 60);
        due("61 never", x.later(61, 0), NONE);
        set(x, 940, 0, 2, 0, 0, 0);
        due("60 from 940", x.later(60, 0), NONE);
        due("59 from 940", x.later(59, 0), 59);
        set(x, 979, 0, 2, 0, 0, 0);
        due("20 from 979", x.chapel(20, 2), 20);
        set(x, 980, 0, 2, 0, 0, 0);
        due("20 from 980", x.chapel(20, 2), NONE);
        due("19 from 980", x.chapel(19, 2), 19);
        set(x, 999, 0, 2, 0, 0, 0);
        due("0 from 999", x.later(0, 0), 0);
        due("1 from 999", x.later(1, 0), NONE);
        due("1 from 999", x.chapel(1, 0), NONE);
        due("none from 999", x.first(0), NONE);
        // GONE for one NIGHT more: the second NIGHT from 998 on would be 999, which never goes by.
        set(x, 998, 0, 2, 0, 0, 0);
        due("one from 998", x.first(0), 1);
        set(x, 998, 0, 2, 0, 0, 1);
        due("none from 998", x.first(0), NONE);
        set(x, 997, 0, 2, 0, 0, 1);
        due("two from 997", x.first(0), 2);
    }
}
