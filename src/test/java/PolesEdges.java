/** The edges that part 2 of the terms and promises 8 to 12 name: poles, houses, years. */
final class PolesEdges {
    private static final int UNKNOWN = PolesInALake.UNKNOWN;
    private static final int OUTSIDE = PolesInALake.OUTSIDE;
    private static final int STATE = PolesInALake.STATE;
    private static final int FULL = PolesInALake.FULL;

    private PolesEdges() {
    }

    static void all() {
        poles();
        holds();
        houses();
        cellsInOneHouse();
        polesOfHouse();
        isDown();
        weighsNothing();
        share();
        ice();
        sinks();
        sinksByShare();
        sinksToFifteen();
        rot();
        downAtEnd();
        oneYearMore();
        offBy();
        pole();
        poleRefused();
        told();
        toldRefused();
        house();
        houseRefused();
        houseState();
        houseFull();
        home();
        homeRefused();
        year();
    }

    /** One pole under a house of one cell, in the lake N2. */
    private static PolesInALake under(int weight, int depth) {
        PolesInALake x = new PolesInALake();
        x.house(0, 0, weight);
        x.pole(0, 0, depth, false);
        return x;
    }

    private static void poles() {
        Doc.says("Terms", "POLES 0, 1, .. (24 at most): a CELL, a WOOD, a DEPTH (1 to 15 feet), with a collar or not, put in THE YEAR (0 at first).");
        PolesInALake x = new PolesInALake();
        for (int k = 0; k < 24; k++) {
            Due.due("pole", x.pole(k % 4 / 2 * 10 + k % 2, k % 3, 1 + k % 15, k % 2 == 1), k);
        }
        Due.due("the 25th", x.pole(0, 0, 1, false), FULL);
        for (int k = 0; k < 24; k++) {
            Due.due("cell", x.told(k, 0), k % 4 / 2 * 10 + k % 2);
            Due.due("wood", x.told(k, 1), k % 3);
            Due.due("depth", x.told(k, 2), 1 + k % 15);
            Due.due("collar", x.told(k, 4), k % 2);
            Due.due("year", x.told(k, 5), 0);
        }
        x = new PolesInALake();
        Due.years(x, 100);
        x.pole(0, 0, 1, false);
        Due.due("put in the year 100", x.told(0, 5), 100);
        x.year();
        Due.due("that stays", x.told(0, 5), 100);
    }

    private static void holds() {
        Doc.says("Terms", "A POLE HOLDS: for each foot of its DEPTH what mud, or (beyond where clay begins) clay holds, and its collar.");
        hold("N2M0C0B0", 1, false, 0);
        hold("N2M0C0B0", 15, true, 0);
        hold("N2M9C9B9", 1, false, 9);
        hold("N2M9C9B9", 1, true, 18);
        hold("N2M9C9B9", 15, false, 135);
        hold("N2M9C9B9", 15, true, 144);
        for (int clay = 0; clay <= 9; clay++) {
            for (int depth = 1; depth <= 15; depth++) {
                int mud = Math.min(clay, depth);
                hold("N2M2C7D00" + clay, depth, false, 2 * mud + 7 * (depth - mud));
                hold("N2M2C7B3D00" + clay, depth, true, 2 * mud + 7 * (depth - mud) + 3);
            }
        }
        hold("N2M2C7", 5, false, 10);
        hold("N2M2C7", 6, false, 17);
        PolesInALake x = under(10, 5);
        x.year();
        Due.due("by its depth now", x.told(0, 7), 9);
        x = Due.lake("N2I9");
        x.pole(0, 0, 5, false);
        x.year();
        Due.due("by its depth now", x.told(0, 7), 4);
    }

    private static void hold(String lake, int depth, boolean collar, int want) {
        PolesInALake x = Due.lake(lake);
        x.pole(0, 0, depth, collar);
        Due.due(lake + ", " + depth + " feet, collar " + collar, x.told(0, 7), want);
    }

    private static void houses() {
        Doc.says("Terms", "HOUSES 0, 1, .. (6 at most): CELLS from one to another one (rows and columns between, both too), which weigh w (1 to 999);");
        Edge.bounds("weight", 1, 999, OUTSIDE, w -> new PolesInALake().house(0, 0, w));
        cellsOf(0, 0);
        cellsOf(55, 55);
        cellsOf(0, 55);
        cellsOf(0, 5);
        cellsOf(20, 25);
        cellsOf(0, 50);
        cellsOf(3, 53);
        cellsOf(11, 44);
        cellsOf(12, 34);
        PolesInALake x = Due.lake("N6");
        for (int k = 0; k < 6; k++) {
            Due.due("house", x.house(11 * k, 11 * k, 1 + k * 199), k);
        }
        Due.due("the seventh", x.house(5, 5, 1), FULL);
        for (int k = 0; k < 6; k++) {
            Due.due("weight", x.home(k, 4), 1 + k * 199);
        }
    }

    /** A pole in a cell is of the house just if the cell is between its corners; 24 poles at a time. */
    private static void cellsOf(int from, int to) {
        for (int first = 0; first < 36; first += 24) {
            PolesInALake x = Due.lake("N6");
            x.house(from, to, 1);
            int poles = 0;
            for (int k = first; k < 36 && k < first + 24; k++) {
                int row = k / 6;
                int column = k % 6;
                x.pole(10 * row + column, 0, 1, false);
                boolean within = row >= from / 10 && row <= to / 10 && column >= from % 10 && column <= to % 10;
                poles += within ? 1 : 0;
                Due.due(from + " to " + to + ", behind cell " + row + column, x.home(0, 0), poles);
            }
        }
    }

    private static void cellsInOneHouse() {
        Doc.says("Terms", "no CELL is in two HOUSES.");
        for (int k = 0; k < 36; k++) {
            int cell = k / 6 * 10 + k % 6;
            boolean within = k / 6 >= 1 && k / 6 <= 3 && k % 6 >= 2 && k % 6 <= 4;
            PolesInALake x = Due.lake("N6");
            x.house(12, 34, 1);
            Due.due("house at " + cell, x.house(cell, cell, 1), within ? STATE : 1);
        }
        PolesInALake x = Due.lake("N6");
        x.house(22, 33, 1);
        Due.due("all around", x.house(0, 55, 1), STATE);
        Due.due("a corner", x.house(0, 22, 1), STATE);
        Due.due("the other corner", x.house(33, 55, 1), STATE);
        Due.due("a row through it", x.house(20, 25, 1), STATE);
        Due.due("a column through it", x.house(3, 53, 1), STATE);
        Due.due("the row above", x.house(10, 15, 1), 1);
        Due.due("the column beside", x.house(21, 51, 1), 2);
    }

    private static void polesOfHouse() {
        Doc.says("Terms", "POLES of a HOUSE: those in its CELLS that STAND.");
        PolesInALake x = Due.lake("N3R01");
        x.pole(0, 0, 5, false);
        x.pole(1, 1, 5, false);
        x.pole(2, 1, 5, false);
        Due.due("no house yet", x.home(0, 0), UNKNOWN);
        x.house(0, 1, 9);
        Due.due("put ahead of it, too", x.home(0, 0), 2);
        x.pole(0, 1, 5, false);
        Due.due("put behind it", x.home(0, 0), 3);
        x.pole(10, 1, 5, false);
        Due.due("beside it", x.home(0, 0), 3);
        x.year();
        Due.due("one fell", x.home(0, 0), 2);
        Due.years(x, 4);
        Due.due("all fell", x.home(0, 0), 0);
        x = new PolesInALake();
        x.house(0, 0, 999);
        for (int k = 0; k < 24; k++) {
            x.pole(0, 0, 15, false);
        }
        Due.due("all 24", x.home(0, 0), 24);
    }

    private static void isDown() {
        Doc.says("Terms", "It is DOWN, if it has none at the end of a YEAR");
        PolesInALake x = new PolesInALake();
        x.house(0, 0, 1);
        Due.due("a house without poles, ahead of the end of the year", x.home(0, 3), 0);
        x.year();
        Due.due("at its end", x.home(0, 3), 1);
        x = new PolesInALake();
        x.house(0, 0, 1);
        x.pole(0, 0, 1, false);
        Due.years(x, 4);
        Due.due("with one pole", x.home(0, 3), 0);
        x.pole(0, 0, 1, false);
        Due.due("its first pole falls", x.year(), 1);
        Due.due("with one pole more", x.home(0, 3), 0);
        Due.years(x, 3);
        Due.due("the fourth year of that", x.home(0, 3), 0);
        x.year();
        Due.due("its last pole fell", x.home(0, 3), 1);
        x = new PolesInALake();
        x.house(0, 0, 1);
        x.pole(1, 0, 15, false);
        x.year();
        Due.due("a pole beside it does not help", x.home(0, 3), 1);
    }

    private static void weighsNothing() {
        Doc.says("Terms", "(from then on it weighs nothing, and is not up again).");
        PolesInALake x = new PolesInALake();
        x.house(0, 0, 999);
        x.year();
        x.pole(0, 0, 1, false);
        for (int k = 0; k < 4; k++) {
            Due.due("its pole", x.home(0, 0), 1);
            Due.due("no share", x.home(0, 1), 0);
            Due.due("down", x.home(0, 3), 1);
            Due.due("none falls", x.year(), 0);
            Due.due("none sinks", x.told(0, 2), 1);
        }
        Due.due("another house is not there", x.house(0, 0, 1), STATE);
        Due.due("what it weighed as told", x.home(0, 4), 999);
    }

    private static void share() {
        Doc.says("Terms", "A SHARE: w by how many POLES it has (a part counts as one).");
        for (int weight : new int[] {1, 2, 23, 24, 25, 48, 49, 998, 999}) {
            PolesInALake x = new PolesInALake();
            x.house(0, 1, weight);
            Due.due(weight + " by none", x.home(0, 1), 0);
            for (int poles = 1; poles <= 24; poles++) {
                x.pole(poles % 2, 0, 15, false);
                int whole = weight / poles;
                int share = whole * poles == weight ? whole : whole + 1;
                Due.due(weight + " by " + poles, x.home(0, 1), share);
            }
        }
    }

    private static void ice() {
        Doc.says("Terms", "A YEAR goes by, POLE by POLE each time: first ICE: a POLE that STANDS and HOLDS less than I is a foot less deep; at 0 it FALLS.");
        for (int ice = 0; ice <= 9; ice++) {
            for (int depth = 1; depth <= 15; depth++) {
                // nine feet of mud, that hold 1 each, then clay that holds nothing
                PolesInALake x = Due.lake("N2D009C0R09I" + ice);
                x.pole(0, 0, depth, false);
                boolean lifted = Math.min(9, depth) < ice;
                int left = lifted ? depth - 1 : depth;
                Due.due("I" + ice + ", " + depth + " feet: fell", x.year(), left == 0 ? 1 : 0);
                Due.due("I" + ice + ", " + depth + " feet: depth", x.told(0, 2), left);
                Due.due("I" + ice + ", " + depth + " feet: stands", x.told(0, 6), left == 0 ? 0 : 1);
                Due.due("I" + ice + ", " + depth + " feet: at first", x.told(0, 3), depth);
            }
        }
        PolesInALake x = Due.lake("N2M0C0B0I0R09");
        x.pole(0, 0, 1, false);
        Due.years(x, 8);
        Due.due("I0 lifts not even what holds nothing", x.told(0, 2), 1);
        x = Due.lake("N2M0C0B0I1R09");
        x.pole(0, 0, 3, true);
        x.year();
        Due.due("I1: a foot a year", x.told(0, 2), 2);
        x.year();
        Due.due("I1: a foot a year", x.told(0, 2), 1);
        Due.due("at 0 it falls", x.year(), 1);
        Due.due("it is lifted no more", x.year(), 0);
        Due.due("so its depth is 0", x.told(0, 2), 0);
        x = Due.lake("N2M0C0B8I9R09");
        x.pole(0, 0, 1, true);
        Due.due("a collar that holds 8", x.year(), 1);
        x = Due.lake("N2M0C0B9I9R09");
        x.pole(0, 0, 1, true);
        Due.due("a collar that holds 9", x.year(), 0);
        x = Due.lake("N2I9");
        for (int k = 0; k < 24; k++) {
            x.pole(k % 2, 0, 1, false);
        }
        Due.due("all 24 at once", x.year(), 24);
    }

    private static void sinks() {
        Doc.says("Terms", "Then each POLE that STANDS, of a HOUSE that is not DOWN: if the SHARE");
        Doc.says("Terms", "is more than it HOLDS, it SINKS: a foot for each 5 that it is more (a part counts as one),");
        // three feet of mud hold 3
        int[] weights = {1, 2, 3, 4, 7, 8, 9, 12, 13, 14, 17, 18, 19, 23, 28, 33, 38, 43, 48, 53, 58, 62, 63};
        int[] feet = {0, 0, 0, 1, 1, 1, 2, 2, 2, 3, 3, 3, 4, 4, 5, 6, 7, 8, 9, 10, 11, 12, 12};
        for (int k = 0; k < weights.length; k++) {
            PolesInALake x = under(weights[k], 3);
            x.year();
            Due.due("share " + weights[k], x.told(0, 2), 3 + feet[k]);
        }
        PolesInALake x = new PolesInALake();
        x.house(0, 0, 999);
        x.pole(0, 0, 5, false);
        x.pole(1, 0, 5, false);
        x.year();
        Due.due("a pole of no house", x.told(1, 2), 5);
        x = new PolesInALake();
        x.house(0, 0, 12);
        x.pole(0, 0, 1, false);
        x.pole(0, 0, 2, false);
        x.pole(0, 0, 5, false);
        x.year();
        // the share is 4 for each of them
        Due.due("holds 1", x.told(0, 2), 2);
        Due.due("holds 2", x.told(1, 2), 3);
        Due.due("holds 5", x.told(2, 2), 5);
    }

    private static void sinksByShare() {
        Doc.says("Terms", "(by POLES that stand behind the ice)");
        PolesInALake x = Due.lake("N2I2");
        x.house(0, 1, 8);
        x.pole(0, 0, 1, false);
        x.pole(1, 0, 4, false);
        Due.due("share by two", x.home(0, 1), 4);
        Due.due("one falls by ice", x.year(), 1);
        Due.due("by one the share is 8", x.told(1, 2), 5);
        x = Due.lake("N2R01");
        x.house(0, 1, 8);
        x.pole(0, 0, 4, false);
        x.pole(1, 1, 4, false);
        Due.due("one falls by rot", x.year(), 1);
        Due.due("but only behind the sinking", x.told(1, 2), 4);
        x = Due.lake("N2I2");
        x.house(0, 1, 999);
        x.pole(0, 0, 1, false);
        Due.due("no pole stands behind the ice", x.year(), 1);
        Due.due("nothing sinks", x.told(0, 2), 0);
        x = Due.lake("N2I9");
        x.house(0, 0, 4);
        x.pole(0, 0, 4, false);
        x.year();
        Due.due("lifted to 3, holds 3, sinks to 4", x.told(0, 2), 4);
    }

    private static void sinksToFifteen() {
        Doc.says("Terms", "to 15 feet at most.");
        // a foot holds 1: of 67 to 71 it is just 14 feet more
        for (int weight : new int[] {67, 71, 72, 76, 500, 999}) {
            PolesInALake x = under(weight, 1);
            x.year();
            Due.due("share " + weight, x.told(0, 2), 15);
        }
        PolesInALake x = under(66, 1);
        x.year();
        Due.due("13 feet more", x.told(0, 2), 14);
        x.year();
        Due.due("14 feet hold 41: five feet more, but to 15", x.told(0, 2), 15);
        x.year();
        Due.due("15 feet hold 45, and it stays", x.told(0, 2), 15);
        x = under(999, 15);
        Due.due("it does not fall by that", x.year(), 0);
        Due.due("15 feet at first", x.told(0, 2), 15);
        Due.due("off by nothing", x.home(0, 2), 0);
    }

    private static void rot() {
        Doc.says("Terms", "Then ROT: a POLE that is as many YEARS old as its WOOD lasts FALLS (put in YEAR y it is 1 old at the end of YEAR y).");
        for (int lasts = 1; lasts <= 9; lasts++) {
            for (int put : new int[] {0, 1, 30}) {
                PolesInALake x = Due.lake("N2R1" + lasts);
                Due.years(x, put);
                x.pole(0, 1, 7, false);
                for (int old = 1; old <= 10; old++) {
                    Due.due("lasts " + lasts + ", put in " + put + ", old " + old, x.year(), old == lasts ? 1 : 0);
                    Due.due("it stands", x.told(0, 6), old < lasts ? 1 : 0);
                    Due.due("its depth stays", x.told(0, 2), 7);
                }
            }
        }
    }

    private static void downAtEnd() {
        Doc.says("Terms", "Then HOUSES that have no POLE are DOWN.");
        PolesInALake x = Due.lake("N3R01R12I2");
        x.house(0, 0, 1);
        x.house(1, 1, 1);
        x.house(2, 2, 1);
        x.house(10, 10, 1);
        x.pole(0, 0, 9, false);
        x.pole(1, 1, 9, false);
        x.pole(2, 1, 1, false);
        Due.due("one falls by ice, one by rot", x.year(), 2);
        int[] down = {1, 0, 1, 1};
        for (int k = 0; k < 4; k++) {
            Due.due("house " + k, x.home(k, 3), down[k]);
        }
        x.house(11, 11, 1);
        Due.due("a house made in the year 1", x.home(4, 3), 0);
        x.year();
        Due.due("behind it", x.home(4, 3), 1);
        Due.due("and the one that stood", x.home(1, 3), 1);
    }

    private static void oneYearMore() {
        Doc.says("Terms", "THE YEAR is 1 more.");
        PolesInALake x = new PolesInALake();
        Due.due("at first", x.count(4), 0);
        for (int year = 1; year <= 200; year++) {
            x.year();
            Due.due("the year", x.count(4), year);
        }
    }

    private static void offBy() {
        Doc.says("Terms", "OFF is a HOUSE by: of its POLES the greatest of DEPTH less what it was at first, less the least of that (0 of none).");
        PolesInALake x = new PolesInALake();
        x.house(0, 1, 20);
        Due.due("of none", x.home(0, 2), 0);
        x.pole(0, 0, 1, false);
        Due.due("of one", x.home(0, 2), 0);
        x.year();
        Due.due("of one that sank", x.home(0, 2), 0);
        x.pole(1, 0, 15, false);
        Due.due("of one that sank by 4 and a new one", x.home(0, 2), 4);
        Due.years(x, 4);
        Due.due("the first one fell", x.home(0, 0), 1);
        Due.due("of the other", x.home(0, 2), 0);
        x.year();
        Due.due("of none again", x.home(0, 2), 0);
        x = apart();
        for (int year = 1; year <= 8; year++) {
            x.year();
            // one sinks by two and is lifted by one, the other is lifted by one
            Due.due("sunk", x.told(0, 2), 2 + year);
            Due.due("lifted", x.told(1, 2), 15 - year);
            Due.due("off by both", x.home(0, 2), 2 * year);
        }
        Due.due("both fall", x.year(), 2);
        Due.due("of none", x.home(0, 2), 0);
        x = Due.lake("N2I9R09");
        x.house(0, 1, 1);
        x.pole(0, 0, 5, false);
        x.pole(1, 0, 4, false);
        Due.years(x, 2);
        Due.due("both were lifted alike", x.home(0, 2), 0);
        Due.years(x, 2);
        Due.due("the other fell", x.home(0, 0), 1);
        Due.due("one that was lifted, alone", x.home(0, 2), 0);
    }

    /** One pole of a house sinks while the other is lifted: no house can be off by more. */
    static PolesInALake apart() {
        PolesInALake x = Due.lake("N2M0C0B8I9R09");
        x.house(0, 1, 16);
        x.pole(0, 0, 2, false);
        x.pole(1, 0, 15, true);
        return x;
    }

    private static void pole() {
        Doc.says("8", "A POLE: its number.");
        PolesInALake x = new PolesInALake();
        for (int k = 0; k < 12; k++) {
            Due.due("pole", x.pole(11, 2, 15, true), k);
            Due.due("poles", x.count(1), k + 1);
        }
        Due.years(x, 5);
        Due.due("all fell", x.count(2), 0);
        Due.due("numbers go on", x.pole(0, 0, 1, false), 12);
    }

    private static void poleRefused() {
        Doc.says("8", "UNKNOWN: cell, wood; OUTSIDE: depth; FULL.");
        Edge.bounds("wood", 0, 2, UNKNOWN, wood -> new PolesInALake().pole(0, wood, 1, false));
        Edge.bounds("depth", 1, 15, OUTSIDE, depth -> new PolesInALake().pole(0, 0, depth, false));
        Edge.bounds("column of n 6", 0, 5, UNKNOWN, cell -> Due.lake("N6").pole(cell, 0, 1, false));
        Edge.bounds("row 1 of n 2", 10, 11, UNKNOWN, cell -> new PolesInALake().pole(cell, 0, 1, true));
        PolesInALake x = new PolesInALake();
        Due.due("cell ahead of wood and depth", x.pole(2, 3, 0, false), UNKNOWN);
        Due.due("cell ahead of depth", x.pole(-1, 0, 16, false), UNKNOWN);
        Due.due("wood ahead of depth", x.pole(0, -1, 16, false), UNKNOWN);
        Due.due("none was put", x.count(1), 0);
        for (int k = 0; k < 23; k++) {
            x.pole(0, 1, 1, false);
        }
        Due.due("the 24th", x.pole(0, 0, 15, false), 23);
        Due.due("full", x.pole(0, 0, 15, false), FULL);
        Due.due("full with a collar", x.pole(11, 2, 1, true), FULL);
        Due.due("cell ahead of full", x.pole(12, 0, 1, false), UNKNOWN);
        Due.due("wood ahead of full", x.pole(0, 3, 1, false), UNKNOWN);
        Due.due("depth ahead of full", x.pole(0, 0, 0, false), OUTSIDE);
        Due.due("24", x.count(1), 24);
        Due.years(x, 5);
        Due.due("all fell", x.count(2), 0);
        Due.due("full of fallen ones", x.pole(0, 0, 1, false), FULL);
    }

    private static void told() {
        Doc.says("9", "Of a POLE its CELL (0), WOOD (1), DEPTH now (2), at first (3), 1 with a collar (4), the YEAR in which it was put (5), 1 if it STANDS (6), what it HOLDS (7).");
        PolesInALake x = Due.lake("N6I9R22");
        x.year();
        x.house(55, 55, 11);
        x.pole(0, 0, 1, true);
        x.pole(55, 2, 6, false);
        int[] first = {0, 0, 1, 1, 1, 1, 1, 6};
        int[] second = {55, 2, 6, 6, 0, 1, 1, 9};
        allTold(x, 0, first);
        allTold(x, 1, second);
        Due.due("the first is lifted out", x.year(), 1);
        int[] firstFell = {0, 0, 0, 1, 1, 1, 0, 5};
        int[] secondSank = {55, 2, 7, 6, 0, 1, 1, 13};
        allTold(x, 0, firstFell);
        allTold(x, 1, secondSank);
        Due.due("the second rots", x.year(), 1);
        int[] secondFell = {55, 2, 7, 6, 0, 1, 0, 13};
        allTold(x, 0, firstFell);
        allTold(x, 1, secondFell);
    }

    private static void allTold(PolesInALake x, int pole, int[] want) {
        for (int what = 0; what < 8; what++) {
            Due.due("told " + pole + " " + what, x.told(pole, what), want[what]);
        }
    }

    private static void toldRefused() {
        Doc.says("9", "UNKNOWN; OUTSIDE.");
        PolesInALake x = new PolesInALake();
        Due.due("no pole", x.told(0, 0), UNKNOWN);
        Due.due("no pole ahead of what", x.told(0, 8), UNKNOWN);
        x.pole(0, 0, 1, false);
        Edge.bounds("what", 0, 7, OUTSIDE, what -> x.told(0, what));
        Edge.bounds("one pole", 0, 0, UNKNOWN, pole -> x.told(pole, 0));
        Due.due("pole ahead of what", x.told(1, 8), UNKNOWN);
        Due.due("pole ahead of what", x.told(-1, -1), UNKNOWN);
        PolesInALake y = RefusalsTest.full();
        Edge.bounds("24 poles", 0, 23, UNKNOWN, pole -> y.told(pole, 7));
    }

    private static void house() {
        Doc.says("10", "A HOUSE: its number.");
        PolesInALake x = Due.lake("N3");
        for (int k = 0; k < 6; k++) {
            Due.due("house", x.house(k / 3 * 10 + k % 3, k / 3 * 10 + k % 3, 1), k);
            Due.due("houses", x.count(3), k + 1);
        }
        x = new PolesInALake();
        Due.due("all cells", x.house(0, 11, 1), 0);
        Due.due("none is left", x.house(11, 11, 1), STATE);
    }

    private static void houseRefused() {
        Doc.says("10", "UNKNOWN: cells; OUTSIDE: weight;");
        Edge.bounds("weight", 1, 999, OUTSIDE, weight -> new PolesInALake().house(0, 11, weight));
        Edge.bounds("first cell", 0, 1, UNKNOWN, cell -> new PolesInALake().house(cell, 11, 1));
        Edge.bounds("other cell", 10, 11, UNKNOWN, cell -> new PolesInALake().house(0, cell, 1));
        PolesInALake x = new PolesInALake();
        Due.due("first cell ahead of weight", x.house(2, 0, 0), UNKNOWN);
        Due.due("other cell ahead of weight", x.house(0, 2, 1000), UNKNOWN);
        Due.due("weight ahead of state", x.house(1, 0, 0), OUTSIDE);
        Due.due("weight ahead of state", x.house(1, 0, 1000), OUTSIDE);
        Due.due("cells ahead of state", x.house(1, -1, 1), UNKNOWN);
        Due.due("none was made", x.count(3), 0);
    }

    private static void houseState() {
        Doc.says("10", "STATE: the other CELL is above or left of the first one, or a CELL is in a HOUSE;");
        for (int a = 0; a < 36; a++) {
            for (int b = 0; b < 36; b++) {
                PolesInALake x = Due.lake("N6");
                boolean fits = b / 6 >= a / 6 && b % 6 >= a % 6;
                int from = a / 6 * 10 + a % 6;
                int to = b / 6 * 10 + b % 6;
                Due.due(from + " to " + to, x.house(from, to, 1), fits ? 0 : STATE);
                Due.due("houses", x.count(3), fits ? 1 : 0);
                // what was refused took no cell
                Due.due("at its first cell", x.house(from, from, 1), fits ? STATE : 0);
                Due.due("at its other cell", x.house(to, to, 1), fits ? STATE : 1);
            }
        }
        PolesInALake x = Due.lake("N3");
        x.house(0, 1, 1);
        x.year();
        Due.due("it is down", x.home(0, 3), 1);
        Due.due("its cells are in a house still", x.house(1, 11, 1), STATE);
        Due.due("cells beside it", x.house(10, 22, 1), 1);
    }

    private static void houseFull() {
        Doc.says("10", "FULL.");
        PolesInALake x = Due.lake("N3");
        for (int k = 0; k < 6; k++) {
            x.house(k / 3 * 10 + k % 3, k / 3 * 10 + k % 3, 1);
        }
        Due.due("the seventh", x.house(20, 22, 1), FULL);
        Due.due("a house there ahead of full", x.house(10, 20, 1), STATE);
        Due.due("left ahead of full", x.house(22, 20, 1), STATE);
        Due.due("weight ahead of full", x.house(20, 22, 1000), OUTSIDE);
        Due.due("cells ahead of full", x.house(20, 23, 1), UNKNOWN);
        Due.due("six", x.count(3), 6);
        x.year();
        Due.due("all are down", x.home(5, 3), 1);
        Due.due("full of houses that are down", x.house(20, 22, 1), FULL);
    }

    private static void home() {
        Doc.says("11", "Of a HOUSE how many POLES (0), its SHARE (1; 0 of none), OFF (2), 1 if it is DOWN (3), what it weighs as it was told, also if it is DOWN (4).");
        PolesInALake x = new PolesInALake();
        x.house(0, 1, 999);
        allOfHome(x, 0, 0, 0, 0, 999);
        x.pole(0, 0, 15, false);
        allOfHome(x, 1, 999, 0, 0, 999);
        x.pole(1, 0, 1, false);
        allOfHome(x, 2, 500, 0, 0, 999);
        x.year();
        allOfHome(x, 2, 500, 14, 0, 999);
        Due.years(x, 4);
        allOfHome(x, 0, 0, 0, 1, 999);
        x.pole(1, 0, 1, false);
        allOfHome(x, 1, 0, 0, 1, 999);
    }

    private static void allOfHome(PolesInALake x, int... want) {
        for (int what = 0; what < 5; what++) {
            Due.due("home 0 " + what, x.home(0, what), want[what]);
        }
    }

    private static void homeRefused() {
        Doc.says("11", "UNKNOWN; OUTSIDE.");
        PolesInALake x = new PolesInALake();
        Due.due("no house", x.home(0, 0), UNKNOWN);
        Due.due("no house ahead of what", x.home(0, 5), UNKNOWN);
        x.house(0, 0, 1);
        Edge.bounds("what", 0, 4, OUTSIDE, what -> x.home(0, what));
        Edge.bounds("one house", 0, 0, UNKNOWN, house -> x.home(house, 4));
        PolesInALake y = RefusalsTest.full();
        Edge.bounds("six houses", 0, 5, UNKNOWN, house -> y.home(house, 4));
        Due.due("house ahead of what", y.home(6, 5), UNKNOWN);
        Due.due("house ahead of what", y.home(-1, -1), UNKNOWN);
    }

    private static void year() {
        Doc.says("12", "A YEAR goes by: how many POLES FELL.");
        PolesInALake x = new PolesInALake();
        Due.due("no poles", x.year(), 0);
        for (int k = 0; k < 24; k++) {
            x.pole(0, k % 3, 1, false);
        }
        for (int k = 0; k < 4; k++) {
            Due.due("none", x.year(), 0);
        }
        Due.due("all", x.year(), 24);
        Due.due("none again", x.year(), 0);
        x = Due.lake("N2I2R01");
        x.pole(0, 0, 1, false);
        x.pole(0, 1, 1, false);
        x.pole(0, 0, 9, false);
        x.pole(0, 1, 9, false);
        Due.due("by ice, by rot, by both just once", x.year(), 3);
        Due.due("one stands", x.count(2), 1);
    }
}
