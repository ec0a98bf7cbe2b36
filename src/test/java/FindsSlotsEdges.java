/** The edges that part 5 of the terms and promises 27 to 36 name: finds, slots, counts. */
final class FindsSlotsEdges {
    private static final int UNKNOWN = PolesInALake.UNKNOWN;
    private static final int OUTSIDE = PolesInALake.OUTSIDE;
    private static final int STATE = PolesInALake.STATE;
    private static final int FULL = PolesInALake.FULL;
    private static final int NONE = PolesInALake.NONE;

    private FindsSlotsEdges() {
    }

    static void all() {
        findsAtMost();
        kinTouch();
        kinRingYears();
        groups();
        oneHouse();
        laterInNoGroup();
        laterEarlier();
        grewBy();
        toDig();
        slots();
        find();
        findRefused();
        unfind();
        unfindState();
        group();
        groupRefused();
        houses();
        later();
        laterNone();
        grew();
        dig();
        keep();
        keepRefused();
        again();
        againRefused();
        againState();
        count();
    }

    /** Finds in the lake N6: a cell and a ring year each. */
    private static PolesInALake found(int... cellsAndYears) {
        PolesInALake x = Due.lake("N6");
        for (int k = 0; k + 1 < cellsAndYears.length; k += 2) {
            x.find(cellsAndYears[k], 0, cellsAndYears[k + 1]);
        }
        return x;
    }

    private static void findsAtMost() {
        Doc.says("Terms", "FINDS 0, 1, .. (16 at most): a CELL, a WOOD, a RING YEAR of felling.");
        PolesInALake x = Due.lake("N6");
        for (int k = 0; k < 16; k++) {
            Due.due("find", x.find(k / 4 * 10 + k % 4, k % 3, 3 * k), k);
        }
        Due.due("the 17th", x.find(55, 0, 59), FULL);
        Due.due("16", x.count(5), 16);
        Edge.bounds("wood", 0, 2, UNKNOWN, wood -> new PolesInALake().find(11, wood, 0));
        Edge.bounds("ring year", 0, 59, UNKNOWN, year -> new PolesInALake().find(11, 0, year));
    }

    private static void kinTouch() {
        Doc.says("Terms", "Two are KIN, if their CELLS touch (at a corner, too, or are one),");
        for (int a = 0; a < 36; a++) {
            for (int b = 0; b < 36; b++) {
                int one = a / 6 * 10 + a % 6;
                int other = b / 6 * 10 + b % 6;
                boolean touch = Math.abs(a / 6 - b / 6) <= 1 && Math.abs(a % 6 - b % 6) <= 1;
                PolesInALake x = found(one, 7, other, 7);
                Due.due(one + " and " + other, x.group(1), touch ? 0 : 1);
            }
        }
    }

    private static void kinRingYears() {
        Doc.says("Terms", "and RING YEARS are no more than 1 apart.");
        for (int one : new int[] {0, 1, 2, 30, 57, 58, 59}) {
            for (int other = 0; other < 60; other++) {
                boolean kin = Math.abs(one - other) <= 1;
                Due.due(one + " and " + other, found(33, one, 33, other).group(1), kin ? 0 : 1);
            }
        }
        Due.due("cells that do not touch, one year", found(0, 5, 2, 5).group(1), 1);
        Due.due("the wood is set aside", woods(0, 2).group(1), 0);
    }

    private static PolesInALake woods(int one, int other) {
        PolesInALake x = new PolesInALake();
        x.find(0, one, 5);
        x.find(0, other, 5);
        return x;
    }

    private static void groups() {
        Doc.says("Terms", "A GROUP: those that hang together by KIN.");
        // a chain of 16 cells and years, the last ones first
        PolesInALake x = Due.lake("N6");
        int[] chain = {0, 1, 2, 3, 4, 5, 15, 25, 24, 23, 22, 21, 20, 30, 40, 41};
        for (int k = 0; k < 16; k++) {
            x.find(chain[k], 0, 20 + k);
        }
        for (int k = 0; k < 16; k++) {
            Due.due("of a chain", x.group(k), 0);
        }
        Due.due("one house", x.houses(), 1);
        x = Due.lake("N6");
        for (int k = 0; k < 16; k += 2) {
            x.find(chain[k], 0, 20 + k);
        }
        for (int k = 0; k < 8; k++) {
            Due.due("apart", x.group(k), k);
        }
        for (int k = 15; k > 0; k -= 2) {
            x.find(chain[k], 0, 20 + k);
        }
        for (int k = 0; k < 16; k++) {
            Due.due("joined by the others", x.group(k), 0);
        }
        x.unfind();
        Due.due("the last one joined the first", x.group(0), 0);
        Due.due("the others hang together", x.group(14), 1);
        // years that are two apart hang together by a third
        Due.due("5 and 7", found(0, 5, 0, 7).group(1), 1);
        Due.due("5 and 7 by 6", found(0, 5, 0, 7, 0, 6).group(1), 0);
        Due.due("0 and 2 by 1", found(0, 5, 2, 5, 1, 5).group(1), 0);
    }

    private static void oneHouse() {
        Doc.says("Terms", "ONE HOUSE is a GROUP of three or more.");
        Due.due("none", found().houses(), 0);
        Due.due("of one", found(0, 5).houses(), 0);
        Due.due("of two", found(0, 5, 0, 5).houses(), 0);
        Due.due("of three", found(0, 5, 0, 5, 0, 5).houses(), 1);
        Due.due("of four", found(0, 5, 0, 5, 0, 5, 0, 5).houses(), 1);
        Due.due("two and two", found(0, 5, 0, 5, 0, 7, 0, 7).houses(), 0);
        Due.due("three and three", found(0, 5, 0, 5, 0, 5, 0, 7, 0, 7, 0, 7).houses(), 2);
    }

    private static void laterInNoGroup() {
        Doc.says("Terms", "LATER is a FIND in no such GROUP that touches one");
        PolesInALake x = found(0, 5, 0, 5, 1, 5);
        for (int f = 0; f < 3; f++) {
            Due.due("of the group", x.later(f), NONE);
        }
        int[] touching = {0, 1, 2, 10, 11, 12};
        for (int cell : touching) {
            Due.due("touches at " + cell, found(0, 5, 0, 5, 1, 5, cell, 40).later(3), 0);
        }
        for (int cell : new int[] {3, 13, 20, 21, 22, 23, 55}) {
            Due.due("does not touch at " + cell, found(0, 5, 0, 5, 1, 5, cell, 40).later(3), NONE);
        }
        Due.due("one of two", found(0, 5, 0, 5, 1, 5, 11, 40, 11, 41).later(4), 0);
        Due.due("one of three is of a house itself", found(0, 5, 0, 5, 1, 5, 11, 40, 11, 41, 11, 40).later(4), NONE);
        Due.due("beside two that are no house", found(0, 5, 0, 5, 11, 40).later(2), NONE);
        Due.due("beside none", found(0, 5).later(0), NONE);
    }

    private static void laterEarlier() {
        Doc.says("Terms", "of an earlier such GROUP (by its first RING YEAR): it was put beside.");
        // the group has the ring years 20, 21, 22; kin of one of them is of the group
        for (int year = 0; year < 60; year++) {
            boolean kin = year >= 19 && year <= 23;
            PolesInALake x = found(0, 20, 1, 21, 2, 22, 1, year);
            Due.due("felled in " + year, x.later(3), year > 20 && !kin ? 0 : NONE);
        }
        // it touches only the one of 22, and is kin of none
        for (int year : new int[] {0, 19, 20, 24, 59}) {
            Due.due("felled in " + year, found(0, 20, 1, 21, 2, 22, 3, year).later(3), year > 20 ? 0 : NONE);
        }
        // by the first ring year, not by that of the one that it touches
        PolesInALake x = found(0, 10, 1, 11, 2, 12, 3, 13, 4, 14, 5, 12);
        Due.due("12 touches the one of 14 alone", x.later(5), 0);
        x = found(0, 10, 1, 11, 2, 12, 3, 13, 4, 14, 5, 10);
        Due.due("as early as its first one", x.later(5), NONE);
        x = found(0, 10, 1, 11, 2, 12, 3, 13, 4, 14, 5, 11);
        Due.due("a year behind its first one", x.later(5), 0);
    }

    private static void grewBy() {
        Doc.says("Terms", "GREW: how many such GROUPS began by a RING YEAR.");
        PolesInALake x = found(0, 21, 0, 20, 0, 22, 5, 0, 5, 0, 5, 0, 50, 59, 50, 59, 50, 59, 55, 30, 55, 30);
        for (int year = 0; year < 60; year++) {
            Due.due("by " + year, x.grew(year), year >= 59 ? 3 : year >= 20 ? 2 : 1);
        }
    }

    private static void toDig() {
        Doc.says("Terms", "TO DIG: the CELL without FINDS that most FINDS touch; of like ones the least; NONE: no FIND touches any.");
        for (int n = 2; n <= 6; n++) {
            PolesInALake x = Due.lake("N" + n);
            Due.due("no find", x.dig(), NONE);
            x.find(0, 0, 0);
            Due.due("the first cell has one", x.dig(), 1);
            x = Due.lake("N" + n);
            int last = 11 * (n - 1);
            x.find(last, 0, 0);
            Due.due("the last cell has one", x.dig(), last - 11);
        }
        PolesInALake x = new PolesInALake();
        x.find(0, 0, 0);
        x.find(11, 0, 59);
        Due.due("of like ones", x.dig(), 1);
        x.find(1, 0, 30);
        Due.due("the last one", x.dig(), 10);
        x.find(10, 0, 0);
        Due.due("each cell has finds", x.dig(), NONE);
        x.unfind();
        Due.due("one has none again", x.dig(), 10);
        Due.due("finds in one cell count each", found(0, 0, 55, 0, 55, 0).dig(), 44);
        Due.due("as many: the least", found(0, 0, 0, 0, 55, 0, 55, 0).dig(), 1);
        Due.due("eight around", found(11, 0, 12, 0, 13, 0, 21, 0, 23, 0, 31, 0, 32, 0, 33, 0).dig(), 22);
        Due.due("but a find there", found(11, 0, 12, 0, 13, 0, 21, 0, 23, 0, 31, 0, 32, 0, 33, 0, 22, 0).dig(), 2);
        // the end of a row and the beginning of the next one do not touch
        Due.due("the end of a row", found(5, 0).dig(), 4);
        Due.due("the beginning of a row", found(10, 0).dig(), 0);
        x = Due.lake("N4");
        for (int k = 0; k < 15; k++) {
            x.find(k / 4 * 10 + k % 4, 0, 0);
        }
        Due.due("the last cell", x.dig(), 33);
        Due.due("the 16th", x.find(33, 0, 0), 15);
        Due.due("none", x.dig(), NONE);
    }

    private static void slots() {
        Doc.says("Terms", "SLOTS 0 to 1 keep POLES, HOUSES and THE YEAR.");
        Edge.bounds("keep", 0, 1, UNKNOWN, slot -> new PolesInALake().keep(slot));
        Edge.bounds("again", 0, 1, UNKNOWN, slot -> RefusalsTest.full().again(slot));
        PolesInALake x = Due.lake("N3R01");
        x.keep(0);
        x.house(0, 1, 20);
        x.pole(0, 0, 3, true);
        x.pole(1, 2, 4, false);
        x.year();
        x.keep(1);
        x.find(0, 0, 0);
        x.rise(4);
        x.ring(9, 9);
        x.write(2, 0x4D31L);
        Due.due("nothing", x.again(0), 0);
        int[] none = {7, 0, 0, 0, 0, 1};
        int[] some = {7, 2, 1, 1, 1, 1};
        for (int what = 0; what < 6; what++) {
            Due.due("count " + what, x.count(what), none[what]);
        }
        Due.due("one stands", x.again(1), 1);
        for (int what = 0; what < 6; what++) {
            Due.due("count " + what, x.count(what), some[what]);
        }
        Due.due("the pole that fell", x.told(0, 6), 0);
        Due.due("it fell in the year before", x.takes(1, 1), 1);
        Due.due("the house is there", x.home(0, 4), 20);
        Due.due("finds are not kept", x.count(5), 1);
        Due.due("nor water", x.calm(), 1);
        Due.due("nor rings", x.ring(9, 0), 9);
    }

    private static void find() {
        Doc.says("27", "A FIND: its number.");
        PolesInALake x = new PolesInALake();
        for (int k = 0; k < 16; k++) {
            Due.due("find", x.find(11, 2, 59), k);
            Due.due("finds", x.count(5), k + 1);
        }
        x.unfind();
        Due.due("the last number again", x.find(0, 0, 0), 15);
    }

    private static void findRefused() {
        Doc.says("27", "UNKNOWN: cell, wood, ring year; FULL: 16.");
        Edge.bounds("cell", 10, 11, UNKNOWN, cell -> new PolesInALake().find(cell, 0, 0));
        Edge.bounds("wood", 0, 2, UNKNOWN, wood -> new PolesInALake().find(0, wood, 0));
        Edge.bounds("ring year", 0, 59, UNKNOWN, year -> new PolesInALake().find(0, 0, year));
        PolesInALake x = new PolesInALake();
        for (int k = 0; k < 15; k++) {
            x.find(0, 0, 0);
        }
        Due.due("the 16th", x.find(0, 0, 0), 15);
        Due.due("the 17th", x.find(0, 0, 0), FULL);
        Due.due("cell ahead of FULL", x.find(2, 0, 0), UNKNOWN);
        Due.due("wood ahead of FULL", x.find(0, 3, 0), UNKNOWN);
        Due.due("ring year ahead of FULL", x.find(0, 0, 60), UNKNOWN);
        Due.due("16", x.count(5), 16);
        Due.due("the last one is as it was", x.group(15), 0);
    }

    private static void unfind() {
        Doc.says("28", "The last FIND is taken back: how many are left.");
        PolesInALake x = found(0, 5, 1, 5, 2, 5, 55, 5);
        Due.due("one house", x.houses(), 1);
        Due.due("three left", x.unfind(), 3);
        Due.due("the one beyond is gone", x.group(3), UNKNOWN);
        Due.due("one house still", x.houses(), 1);
        Due.due("two left", x.unfind(), 2);
        Due.due("none", x.houses(), 0);
        Due.due("one left", x.unfind(), 1);
        Due.due("alone", x.group(0), 0);
        Due.due("none left", x.unfind(), 0);
        Due.due("nothing to dig by", x.dig(), NONE);
        x = new PolesInALake();
        for (int k = 0; k < 16; k++) {
            x.find(0, 0, 0);
        }
        for (int k = 15; k >= 0; k--) {
            Due.due("from 16", x.unfind(), k);
        }
    }

    private static void unfindState() {
        Doc.says("28", "STATE: there is none.");
        PolesInALake x = new PolesInALake();
        Due.due("a new object", x.unfind(), STATE);
        x.find(0, 0, 60);
        Due.due("a refused find is none", x.unfind(), STATE);
        x.find(0, 0, 59);
        Due.due("one", x.unfind(), 0);
        Due.due("none again", x.unfind(), STATE);
        Due.due("none", x.count(5), 0);
        Due.due("then find 0", x.find(0, 0, 0), 0);
    }

    private static void group() {
        Doc.says("29", "The least FIND of the GROUP of one.");
        PolesInALake x = found(55, 5, 0, 5, 54, 5, 10, 5, 33, 5);
        int[] want = {0, 1, 0, 1, 4};
        for (int f = 0; f < 5; f++) {
            Due.due("group " + f, x.group(f), want[f]);
        }
        Due.due("it joins 33 with 54", x.find(44, 0, 5), 5);
        Due.due("its own", x.group(5), 0);
        Due.due("that of 33", x.group(4), 0);
        Due.due("the other stays", x.group(3), 1);
    }

    private static void groupRefused() {
        Doc.says("29", "UNKNOWN.");
        Due.due("no find", new PolesInALake().group(0), UNKNOWN);
        Edge.bounds("one find", 0, 0, UNKNOWN, f -> found(0, 0).group(f));
        Edge.bounds("16 finds", 0, 15, UNKNOWN, f -> RefusalsTest.full().group(f));
    }

    private static void houses() {
        Doc.says("30", "How many GROUPS are ONE HOUSE.");
        PolesInALake x = new PolesInALake();
        Due.due("no find", x.houses(), 0);
        for (int k = 0; k < 15; k++) {
            x.find(0, 0, k / 3 * 2);
            Due.due("behind find " + k, x.houses(), (k + 1) / 3);
        }
        Due.due("the 16th is kin to two of them", x.find(0, 0, 1), 15);
        Due.due("so there is one less", x.houses(), 4);
    }

    private static void later() {
        Doc.says("31", "Whether a FIND is LATER: the least FIND of the first such GROUP (by its first RING YEAR, then its least FIND) that it touches;");
        // two houses to the left and to the right of column 2
        PolesInALake x = found(1, 30, 1, 30, 1, 30, 3, 20, 3, 20, 3, 20, 2, 50);
        Due.due("the one that began first", x.later(6), 3);
        x = found(1, 20, 1, 20, 1, 20, 3, 20, 3, 20, 3, 20, 2, 50);
        Due.due("of like ones that of the least find", x.later(6), 0);
        x = found(3, 21, 1, 20, 3, 20, 3, 21, 1, 21, 1, 20, 2, 50);
        Due.due("both began in 20", x.later(6), 0);
        x = found(1, 20, 1, 20, 1, 20, 3, 30, 3, 30, 3, 30, 2, 25);
        Due.due("only one is earlier", x.later(6), 0);
        x = found(1, 20, 1, 20, 1, 20, 3, 30, 3, 30, 3, 30, 4, 50);
        Due.due("only one touches it", x.later(6), 3);
        x = found(2, 50, 3, 20, 3, 20, 3, 20);
        Due.due("found ahead of them", x.later(0), 1);
        x = found(1, 20, 0, 20, 0, 20, 2, 50);
        Due.due("touches the first one alone", x.later(3), 0);
        x = found(4, 50, 1, 20, 1, 20, 2, 20, 3, 20);
        Due.due("touches the last one alone", x.later(0), 1);
        x.unfind();
        Due.due("which is taken back", x.later(0), NONE);
        x = Due.lake("N6");
        for (int k = 0; k < 15; k++) {
            x.find(0, 0, 20);
        }
        x.find(1, 0, 50);
        Due.due("the last of 16", x.later(15), 0);
    }

    private static void laterNone() {
        Doc.says("31", "NONE. UNKNOWN.");
        PolesInALake x = found(1, 20, 1, 20, 1, 20, 2, 20, 2, 5, 55, 50);
        Due.due("of the house", x.later(3), NONE);
        Due.due("earlier than it", x.later(4), NONE);
        Due.due("touches none", x.later(5), NONE);
        Due.due("no find", new PolesInALake().later(0), UNKNOWN);
        Edge.bounds("one find", 0, 0, UNKNOWN, f -> found(0, 0).later(f));
        Edge.bounds("16 finds", 0, 15, UNKNOWN, f -> RefusalsTest.full().later(f));
    }

    private static void grew() {
        Doc.says("32", "GREW. UNKNOWN: ring year.");
        Edge.bounds("ring year", 0, 59, UNKNOWN, year -> new PolesInALake().grew(year));
        PolesInALake x = found(0, 59, 0, 59, 0, 59);
        Due.due("58", x.grew(58), 0);
        Due.due("59", x.grew(59), 1);
        x = found(0, 0, 0, 0, 0, 1);
        Due.due("0", x.grew(0), 1);
        Due.due("two are none", found(0, 0, 0, 0).grew(59), 0);
    }

    private static void dig() {
        Doc.says("33", "TO DIG; NONE.");
        PolesInALake x = new PolesInALake();
        Due.due("none", x.dig(), NONE);
        x.find(11, 0, 0);
        Due.due("cell 0", x.dig(), 0);
        x.unfind();
        Due.due("none again", x.dig(), NONE);
    }

    private static void keep() {
        Doc.says("34", "They are kept: how many POLES STAND.");
        PolesInALake x = Due.lake("N3R01");
        Due.due("none", x.keep(0), 0);
        for (int k = 0; k < 24; k++) {
            x.pole(0, k % 2, 1, false);
        }
        Due.due("24", x.keep(1), 24);
        Due.due("half of them fall", x.year(), 12);
        Due.due("twelve stand", x.keep(0), 12);
        Due.due("all fell", x.year() + x.year() + x.year() + x.year(), 12);
        Due.due("none stands", x.keep(0), 0);
        Due.due("the other was kept with 24", x.again(1), 24);
        Due.due("what was kept last", x.again(0), 0);
        Due.due("24 poles that fell", x.count(1), 24);
        Due.due("the year 5", x.count(4), 5);
    }

    private static void keepRefused() {
        Doc.says("34", "UNKNOWN.");
        Edge.bounds("slot", 0, 1, UNKNOWN, slot -> RefusalsTest.full().keep(slot));
        PolesInALake x = new PolesInALake();
        x.keep(2);
        x.keep(-1);
        Due.due("slot 0", x.again(0), STATE);
        Due.due("slot 1", x.again(1), STATE);
    }

    private static void again() {
        Doc.says("35", "They are as they were kept: how many POLES STAND.");
        PolesInALake x = Due.lake("N3R01");
        x.house(0, 0, 9);
        x.pole(0, 0, 1, false);
        x.keep(0);
        for (int k = 0; k < 3; k++) {
            Due.due("it falls", x.year(), 1);
            Due.due("down", x.home(0, 3), 1);
            x.house(1, 22, 5);
            x.pole(1, 1, 2, true);
            Due.due("as it was kept, each time", x.again(0), 1);
            Due.due("poles", x.count(1), 1);
            Due.due("depth", x.told(0, 2), 1);
            Due.due("houses", x.count(3), 1);
            Due.due("not down", x.home(0, 3), 0);
            Due.due("the year", x.count(4), 0);
            Due.due("none fell in the year before", x.takes(1, 1), 0);
        }
        Due.due("its cells are free again", x.house(1, 22, 5), 1);
        x = RefusalsTest.full();
        x.again(0);
        Due.due("twelve poles", x.count(1), 12);
        Due.due("room for twelve more", x.pole(0, 0, 1, false), 12);
        x.again(1);
        Due.due("full", x.pole(0, 0, 1, false), FULL);
        Due.due("full of houses", x.house(20, 20, 1), FULL);
    }

    private static void againRefused() {
        Doc.says("35", "UNKNOWN;");
        Edge.bounds("slot", 0, 1, UNKNOWN, slot -> RefusalsTest.full().again(slot));
        Due.due("UNKNOWN, though none were kept", new PolesInALake().again(2), UNKNOWN);
        Due.due("UNKNOWN, though none were kept", new PolesInALake().again(-1), UNKNOWN);
    }

    private static void againState() {
        Doc.says("35", "STATE: none were kept.");
        for (int slot = 0; slot < 2; slot++) {
            PolesInALake x = new PolesInALake();
            x.pole(0, 0, 1, false);
            Due.due("a new object", x.again(slot), STATE);
            Due.due("the pole stays", x.count(1), 1);
            x.keep(1 - slot);
            Due.due("the other one was kept", x.again(slot), STATE);
            Due.due("the other one", x.again(1 - slot), 1);
            x.keep(slot);
            Due.due("now it was", x.again(slot), 1);
            Due.write(x, "N2");
            x.lake();
            Due.due("gone by a lake", x.again(slot), STATE);
            Due.due("gone by a lake", x.again(1 - slot), STATE);
            x.keep(slot);
            Due.due("kept with none", x.again(slot), 0);
        }
    }

    private static void count() {
        Doc.says("36", "0 bytes of THE TEXT, 1 POLES, 2 those that STAND, 3 HOUSES, 4 THE YEAR, 5 FINDS. OUTSIDE.");
        Edge.bounds("what", 0, 5, OUTSIDE, what -> new PolesInALake().count(what));
        Edge.bounds("what, all full", 0, 5, OUTSIDE, what -> RefusalsTest.full().count(what));
        PolesInALake x = new PolesInALake();
        for (int what = 0; what < 6; what++) {
            Due.due("of none " + what, x.count(what), 0);
        }
        x = RefusalsTest.full();
        int[] most = {64, 24, 24, 6, 2, 16};
        for (int what = 0; what < 6; what++) {
            Due.due("all full " + what, x.count(what), most[what]);
        }
        Due.years(x, 3);
        Due.due("poles", x.count(1), 24);
        Due.due("eight of the first twelve fell", x.count(2), 16);
        Due.due("the year", x.count(4), 5);
    }
}
