/** Promises 27 to 36: finds and their groups, where to dig, what is kept, the counts. */
public final class FindsSlotsTest {
    private static final int UNKNOWN = PolesInALake.UNKNOWN;
    private static final int OUTSIDE = PolesInALake.OUTSIDE;
    private static final int STATE = PolesInALake.STATE;
    private static final int FULL = PolesInALake.FULL;
    private static final int NONE = PolesInALake.NONE;

    public static void main(String[] args) {
        find();
        unfind();
        groups();
        groupsThatJoin();
        rowsApart();
        laterEdges();
        laterOfSeveral();
        grew();
        dig();
        keep();
        count();
        Due.end();
    }

    private static void find() {
        PolesInALake x = new PolesInALake();
        Due.due("cell", x.find(2, 0, 0), UNKNOWN);
        Due.due("cell -1", x.find(-1, 0, 0), UNKNOWN);
        Due.due("wood", x.find(0, 3, 0), UNKNOWN);
        Due.due("wood -1", x.find(0, -1, 0), UNKNOWN);
        Due.due("ring year 60", x.find(0, 0, 60), UNKNOWN);
        Due.due("ring year -1", x.find(0, 0, -1), UNKNOWN);
        Due.due("none", x.count(5), 0);
        for (int k = 0; k < 16; k++) {
            Due.due("find " + k, x.find(11, k % 3, k == 0 ? 59 : 0), k);
        }
        Due.due("full", x.find(0, 0, 0), FULL);
        Due.due("UNKNOWN ahead of FULL", x.find(0, 3, 0), UNKNOWN);
        Due.due("16", x.count(5), 16);
    }

    private static void unfind() {
        PolesInALake x = new PolesInALake();
        Due.due("none", x.unfind(), STATE);
        x.find(0, 0, 5);
        x.find(0, 0, 5);
        x.find(0, 0, 5);
        Due.due("a house", x.houses(), 1);
        Due.due("two left", x.unfind(), 2);
        Due.due("no house", x.houses(), 0);
        Due.due("gone", x.group(2), UNKNOWN);
        Due.due("one left", x.unfind(), 1);
        Due.due("none left", x.unfind(), 0);
        Due.due("none", x.unfind(), STATE);
        Due.due("from 0 again", x.find(1, 0, 5), 0);
    }

    private static void groups() {
        PolesInALake x = Due.lake("N6");
        Due.due("no find", x.group(0), UNKNOWN);
        x.find(22, 0, 30);
        x.find(22, 1, 31);
        x.find(33, 2, 32);
        x.find(35, 0, 32);
        x.find(11, 0, 28);
        x.find(0, 0, 29);
        int[] want = {0, 0, 0, 3, 4, 4};
        for (int f = 0; f < 6; f++) {
            Due.due("group " + f, x.group(f), want[f]);
        }
        Due.due("group 6", x.group(6), UNKNOWN);
        Due.due("group -1", x.group(-1), UNKNOWN);
        Due.due("one house", x.houses(), 1);
        Due.due("by its kin at a corner", x.find(10, 0, 29), 6);
        Due.due("group of it", x.group(6), 4);
        Due.due("two houses", x.houses(), 2);
        Due.due("29 and 30 do not touch", x.group(0), 0);
    }

    private static void groupsThatJoin() {
        PolesInALake x = Due.lake("N6");
        x.find(0, 0, 10);
        x.find(2, 0, 10);
        x.find(4, 0, 10);
        x.find(3, 0, 10);
        Due.due("2 and 4 by 3", x.group(3), 1);
        Due.due("2 and 4 by 3", x.group(2), 1);
        Due.due("0 alone", x.group(0), 0);
        x.find(1, 0, 11);
        for (int f = 0; f < 5; f++) {
            Due.due("all hang together: " + f, x.group(f), 0);
        }
        Due.due("one house", x.houses(), 1);
        x.unfind();
        Due.due("apart again", x.group(3), 1);
        Due.due("a house of three", x.houses(), 1);
        x.unfind();
        Due.due("none", x.houses(), 0);
    }

    private static void rowsApart() {
        PolesInALake x = Due.lake("N6");
        for (int cell : new int[] {0, 20, 40, 22, 2, 4, 24, 44, 42}) {
            int f = x.find(cell, 0, 10);
            Due.due("alone at " + cell, x.group(f), f);
        }
    }

    private static void laterEdges() {
        PolesInALake x = Due.lake("N6");
        x.find(0, 0, 10);
        x.find(1, 0, 11);
        Due.due("two are no house", x.later(0), NONE);
        x.find(2, 0, 12);
        for (int f = 0; f < 3; f++) {
            Due.due("of the house: " + f, x.later(f), NONE);
        }
        besides(x, 3, 14, 0);
        besides(x, 3, 10, NONE);
        besides(x, 3, 9, NONE);
        besides(x, 13, 59, 0);
        besides(x, 2, 59, 0);
        besides(x, 4, 59, NONE);
        besides(x, 22, 59, NONE);
        besides(x, 3, 11, NONE);
        Due.due("no find", x.later(3), UNKNOWN);
        Due.due("find -1", x.later(-1), UNKNOWN);
        PolesInALake y = Due.lake("N6");
        y.find(2, 0, 12);
        y.find(1, 0, 11);
        y.find(0, 0, 10);
        besides(y, 3, 14, 0);
        x.find(11, 0, 40);
        x.find(11, 0, 40);
        Due.due("two beside", x.later(3), 0);
        Due.due("two beside", x.later(4), 0);
        x.find(11, 0, 41);
        Due.due("three are a house of their own", x.later(3), NONE);
        Due.due("two houses", x.houses(), 2);
    }

    private static void besides(PolesInALake x, int cell, int ringYear, int want) {
        int f = x.find(cell, 1, ringYear);
        Due.due("cell " + cell + " in " + ringYear, x.later(f), want);
        x.unfind();
    }

    private static void laterOfSeveral() {
        PolesInALake x = Due.lake("N6");
        x.find(0, 0, 20);
        x.find(1, 0, 20);
        x.find(0, 0, 20);
        x.find(3, 0, 12);
        x.find(4, 0, 11);
        x.find(3, 0, 12);
        besides(x, 2, 30, 3);
        besides(x, 2, 18, 3);
        besides(x, 2, 11, NONE);
        x.find(5, 0, 12);
        x.find(31, 0, 20);
        x.find(32, 0, 20);
        x.find(31, 0, 20);
        besides(x, 11, 50, 0);
        besides(x, 21, 50, 7);
        x.unfind();
        x.unfind();
        x.unfind();
        x.find(20, 0, 20);
        x.find(21, 0, 20);
        x.find(22, 0, 20);
        besides(x, 10, 50, 0);
        besides(x, 10, 18, NONE);
        besides(x, 12, 50, 3);
        besides(x, 13, 50, 3);
    }

    private static void grew() {
        PolesInALake x = Due.lake("N6");
        Due.due("none", x.grew(59), 0);
        Due.due("60", x.grew(60), UNKNOWN);
        Due.due("-1", x.grew(-1), UNKNOWN);
        x.find(0, 0, 30);
        x.find(0, 0, 29);
        x.find(0, 0, 31);
        x.find(5, 0, 0);
        x.find(5, 0, 1);
        x.find(5, 0, 1);
        x.find(50, 0, 3);
        x.find(50, 0, 3);
        x.find(55, 0, 59);
        x.find(55, 0, 59);
        x.find(55, 0, 59);
        Due.due("in 0", x.grew(0), 1);
        Due.due("two are no house", x.grew(3), 1);
        Due.due("in 28", x.grew(28), 1);
        Due.due("in 29", x.grew(29), 2);
        Due.due("in 58", x.grew(58), 2);
        Due.due("in 59", x.grew(59), 3);
        Due.due("all", x.houses(), 3);
    }

    private static void dig() {
        PolesInALake x = new PolesInALake();
        Due.due("no find", x.dig(), NONE);
        x.find(0, 0, 0);
        Due.due("the least of like ones", x.dig(), 1);
        x.find(1, 0, 59);
        Due.due("two touch it", x.dig(), 10);
        x.find(10, 0, 59);
        Due.due("one is left", x.dig(), 11);
        x.find(11, 0, 59);
        Due.due("none is left", x.dig(), NONE);
        x = Due.lake("N6");
        x.find(55, 0, 0);
        Due.due("the last corner", x.dig(), 44);
        x.find(55, 0, 20);
        x.find(0, 0, 0);
        Due.due("finds in one cell count each", x.dig(), 44);
        x.find(44, 0, 0);
        Due.due("by three", x.dig(), 45);
        x.find(2, 0, 0);
        x.find(20, 0, 0);
        x.find(22, 0, 0);
        Due.due("four around 11", x.dig(), 11);
    }

    private static void keep() {
        PolesInALake x = Due.lake("N3R01");
        for (int slot : new int[] {-1, 2, Integer.MAX_VALUE, Integer.MIN_VALUE}) {
            Due.due("keep " + slot, x.keep(slot), UNKNOWN);
            Due.due("again " + slot, x.again(slot), UNKNOWN);
        }
        Due.due("none kept", x.again(0), STATE);
        x.pole(0, 0, 3, true);
        x.pole(1, 1, 4, false);
        x.house(0, 1, 40);
        Due.due("keep", x.keep(1), 2);
        Due.due("the other was not", x.again(0), STATE);
        x.year();
        x.pole(2, 2, 5, true);
        x.house(2, 2, 9);
        x.find(0, 0, 0);
        Due.due("keep", x.keep(0), 2);
        Due.due("again", x.again(1), 2);
        int[] counts = {5, 2, 2, 1, 0, 1};
        for (int what = 0; what < 6; what++) {
            Due.due("again: count " + what, x.count(what), counts[what]);
        }
        Due.due("depth", x.told(1, 2), 4);
        Due.due("cells are free", x.house(2, 2, 1), 1);
        x.pole(22, 0, 1, false);
        Due.due("as kept again", x.again(1), 2);
        Due.due("poles", x.count(1), 2);
        Due.due("again the other", x.again(0), 2);
        Due.due("poles", x.count(1), 3);
        Due.due("pole 0 fell", x.told(0, 6), 0);
        int[] third = {2, 2, 5, 5, 1, 1, 1, 10};
        for (int what = 0; what < 8; what++) {
            Due.due("told 2 " + what, x.told(2, what), third[what]);
        }
        Due.due("houses", x.count(3), 2);
        Due.due("cells are taken", x.house(2, 2, 1), STATE);
        Due.due("the year", x.count(4), 1);
        Due.years(x, 9);
        Due.due("down", x.home(0, 3), 1);
        x.again(0);
        Due.due("not down", x.home(0, 3), 0);
        Due.due("kept anew", x.keep(1), 2);
        x.pole(0, 0, 9, false);
        Due.due("again anew", x.again(1), 2);
        Due.due("the year of slot 0", x.count(4), 1);
    }

    private static void count() {
        PolesInALake x = Due.lake("N2R01");
        x.pole(0, 0, 1, false);
        x.pole(0, 1, 1, false);
        x.pole(0, 0, 1, false);
        x.house(0, 0, 1);
        x.year();
        x.year();
        x.find(0, 0, 0);
        x.find(0, 0, 0);
        x.write(3, 0);
        int[] counts = {8, 3, 1, 1, 2, 2};
        for (int what = 0; what < 6; what++) {
            Due.due("count " + what, x.count(what), counts[what]);
        }
        for (int what : new int[] {-1, 6, Integer.MAX_VALUE, Integer.MIN_VALUE}) {
            Due.due("count " + what, x.count(what), OUTSIDE);
        }
    }
}
