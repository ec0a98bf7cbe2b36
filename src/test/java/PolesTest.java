/** Promises 8 to 12: poles, what they hold, houses, years. */
public final class PolesTest {
    private static final int UNKNOWN = PolesInALake.UNKNOWN;
    private static final int OUTSIDE = PolesInALake.OUTSIDE;
    private static final int STATE = PolesInALake.STATE;
    private static final int FULL = PolesInALake.FULL;

    public static void main(String[] args) {
        pole();
        told();
        holds();
        house();
        housesFull();
        home();
        ice();
        iceAheadOfShare();
        sinking();
        rot();
        down();
        off();
        Due.end();
    }

    private static void pole() {
        PolesInALake x = new PolesInALake();
        Due.due("cell ahead of depth", x.pole(2, 0, 0, false), UNKNOWN);
        Due.due("cell -1", x.pole(-1, 0, 1, false), UNKNOWN);
        Due.due("wood -1", x.pole(0, -1, 1, false), UNKNOWN);
        Due.due("wood 3 ahead of depth", x.pole(0, 3, 16, false), UNKNOWN);
        Due.due("depth 0", x.pole(0, 0, 0, false), OUTSIDE);
        Due.due("depth 16", x.pole(0, 0, 16, false), OUTSIDE);
        Due.due("depth -3", x.pole(0, 0, -3, true), OUTSIDE);
        Due.due("no pole yet", x.count(1), 0);
        for (int k = 0; k < 24; k++) {
            Due.due("pole " + k, x.pole(0, k % 3, 1 + k % 15, false), k);
        }
        Due.due("full", x.pole(0, 0, 1, false), FULL);
        Due.due("depth ahead of full", x.pole(0, 0, 16, false), OUTSIDE);
        Due.due("wood ahead of full", x.pole(0, 3, 1, false), UNKNOWN);
        Due.due("24 poles", x.count(1), 24);
        Due.years(x, 9);
        Due.due("none stands", x.count(2), 0);
        Due.due("fallen ones take room too", x.pole(0, 0, 1, false), FULL);
    }

    private static void told() {
        PolesInALake x = Due.lake("N3R29");
        x.year();
        x.year();
        x.pole(12, 2, 7, true);
        x.pole(20, 1, 3, false);
        int[] first = {12, 2, 7, 7, 1, 2, 1, 18};
        int[] second = {20, 1, 3, 3, 0, 2, 1, 3};
        for (int what = 0; what < 8; what++) {
            Due.due("told 0 " + what, x.told(0, what), first[what]);
            Due.due("told 1 " + what, x.told(1, what), second[what]);
        }
        Due.due("told 2", x.told(2, 0), UNKNOWN);
        Due.due("told -1 ahead of what", x.told(-1, 9), UNKNOWN);
        Due.due("told 0 8", x.told(0, 8), OUTSIDE);
        Due.due("told 0 -1", x.told(0, -1), OUTSIDE);
    }

    private static void holds() {
        PolesInALake x = Due.lake("N2D000D013D119M2C7B6");
        hold(x, 0, 1, false, 7);
        hold(x, 0, 15, false, 105);
        hold(x, 0, 15, true, 111);
        hold(x, 1, 2, false, 4);
        hold(x, 1, 3, false, 6);
        hold(x, 1, 4, false, 13);
        hold(x, 1, 4, true, 19);
        hold(x, 10, 5, false, 10);
        hold(x, 10, 6, false, 17);
        hold(x, 11, 9, true, 24);
        hold(x, 11, 10, true, 31);
    }

    private static void hold(PolesInALake x, int cell, int depth, boolean collar, int want) {
        int p = x.pole(cell, 0, depth, collar);
        Due.due("holds at " + cell + ", " + depth + " feet, " + collar, x.told(p, 7), want);
    }

    private static void house() {
        PolesInALake x = Due.lake("N4");
        Due.due("cell ahead of weight", x.house(4, 0, 0), UNKNOWN);
        Due.due("other ahead of weight", x.house(0, 40, 0), UNKNOWN);
        Due.due("weight 0 ahead of state", x.house(11, 0, 0), OUTSIDE);
        Due.due("weight 1000", x.house(0, 0, 1000), OUTSIDE);
        Due.due("weight -1", x.house(0, 0, -1), OUTSIDE);
        Due.due("above", x.house(10, 1, 1), STATE);
        Due.due("left", x.house(1, 10, 1), STATE);
        Due.due("above and left", x.house(11, 0, 1), STATE);
        Due.due("none yet", x.count(3), 0);
        Due.due("house 0", x.house(11, 22, 999), 0);
        Due.due("over it", x.house(0, 33, 1), STATE);
        Due.due("within it", x.house(22, 22, 1), STATE);
        Due.due("at its corner", x.house(0, 11, 1), STATE);
        Due.due("through it", x.house(20, 23, 1), STATE);
        Due.due("unknown ahead of state", x.house(11, 44, 1), UNKNOWN);
        Due.due("beside it", x.house(3, 33, 1), 1);
        Due.due("above it", x.house(0, 2, 1), 2);
        Due.due("one cell", x.house(30, 30, 1), 3);
        Due.due("above that", x.house(20, 20, 1), 4);
        Due.due("houses", x.count(3), 5);
        x.year();
        Due.due("a house that is down", x.home(3, 3), 1);
        Due.due("has its cells still", x.house(30, 30, 1), STATE);
    }

    private static void housesFull() {
        PolesInALake x = Due.lake("N3");
        for (int k = 0; k < 6; k++) {
            Due.due("house " + k, x.house(10 * (k / 3) + k % 3, 10 * (k / 3) + k % 3, 5), k);
        }
        Due.due("full", x.house(20, 20, 5), FULL);
        Due.due("state ahead of full", x.house(0, 20, 5), STATE);
        Due.due("weight ahead of full", x.house(20, 20, 0), OUTSIDE);
        Due.due("six", x.count(3), 6);
    }

    private static void home() {
        PolesInALake x = Due.lake("N3");
        Due.due("no house", x.home(0, 0), UNKNOWN);
        x.house(0, 11, 7);
        Due.due("poles of none", x.home(0, 0), 0);
        Due.due("share of none", x.home(0, 1), 0);
        Due.due("off of none", x.home(0, 2), 0);
        Due.due("not down", x.home(0, 3), 0);
        Due.due("weight", x.home(0, 4), 7);
        x.pole(0, 0, 15, false);
        Due.due("share of one", x.home(0, 1), 7);
        x.pole(11, 0, 15, false);
        Due.due("a part counts as one", x.home(0, 1), 4);
        x.pole(11, 0, 15, false);
        Due.due("three", x.home(0, 0), 3);
        Due.due("share of three", x.home(0, 1), 3);
        x.pole(2, 0, 15, false);
        x.pole(20, 0, 15, false);
        x.pole(12, 0, 15, false);
        Due.due("others are not of it", x.home(0, 0), 3);
        Due.due("what 5", x.home(0, 5), OUTSIDE);
        Due.due("what -1", x.home(0, -1), OUTSIDE);
        Due.due("house 1 ahead of what", x.home(1, 5), UNKNOWN);
        Due.due("house -1", x.home(-1, 0), UNKNOWN);
    }

    private static void ice() {
        PolesInALake x = Due.lake("N2I3");
        x.pole(0, 0, 2, false);
        x.pole(0, 0, 3, false);
        x.pole(0, 0, 1, true);
        x.pole(1, 0, 1, false);
        Due.due("one is lifted out", x.year(), 1);
        Due.due("pole 0 is lifted", x.told(0, 2), 1);
        Due.due("pole 1 holds just 3", x.told(1, 2), 3);
        Due.due("pole 2 has its collar", x.told(2, 2), 1);
        Due.due("pole 3 fell", x.told(3, 6), 0);
        Due.due("pole 3 is no foot deep", x.told(3, 2), 0);
        Due.due("at first it was", x.told(3, 3), 1);
        Due.due("it holds nothing", x.told(3, 7), 0);
        Due.due("then pole 0", x.year(), 1);
        Due.due("pole 0 fell", x.told(0, 6), 0);
        Due.due("at first it was two feet", x.told(0, 3), 2);
        Due.due("none more", x.year(), 0);
        Due.due("two stand", x.count(2), 2);
        Due.due("four poles", x.count(1), 4);
        x = new PolesInALake();
        x.pole(0, 0, 1, false);
        x.year();
        Due.due("no ice lifts nothing", x.told(0, 2), 1);
        x = Due.lake("N2M0I1R09");
        x.pole(0, 0, 1, false);
        Due.due("what holds nothing is lifted", x.year(), 1);
    }

    private static void iceAheadOfShare() {
        PolesInALake x = Due.lake("N2I2");
        x.house(0, 1, 20);
        x.pole(0, 0, 1, false);
        x.pole(1, 0, 8, false);
        Due.due("share of two", x.home(0, 1), 10);
        Due.due("holds", x.told(1, 7), 17);
        Due.due("one falls by ice", x.year(), 1);
        Due.due("the other bears 20", x.told(1, 2), 9);
        Due.due("it holds more now", x.told(1, 7), 21);
        x.year();
        Due.due("and sinks no more", x.told(1, 2), 9);
        x = Due.lake("N2M2I9");
        x.house(0, 0, 8);
        x.pole(0, 0, 4, false);
        x.year();
        Due.due("lifted a foot, then it holds 6 and sinks one", x.told(0, 2), 4);
    }

    private static void sinking() {
        sinks(10, 5, 6);
        sinks(11, 5, 7);
        sinks(6, 5, 6);
        sinks(5, 5, 5);
        sinks(999, 1, 15);
        sinks(75, 1, 15);
        sinks(71, 1, 15);
        sinks(70, 1, 15);
        sinks(66, 1, 14);
        PolesInALake x = new PolesInALake();
        x.house(0, 1, 100);
        x.pole(10, 0, 1, false);
        x.pole(0, 0, 5, false);
        x.pole(1, 0, 15, true);
        x.year();
        Due.due("a pole of no house sinks not", x.told(0, 2), 1);
        Due.due("share 50, holds 5", x.told(1, 2), 14);
        Due.due("share 50, holds 50", x.told(2, 2), 15);
    }

    private static void sinks(int weight, int depth, int want) {
        PolesInALake x = new PolesInALake();
        x.house(0, 0, weight);
        x.pole(0, 0, depth, false);
        Due.due("none falls", x.year(), 0);
        Due.due(weight + " on " + depth + " feet", x.told(0, 2), want);
        Due.due("at first", x.told(0, 3), depth);
    }

    private static void rot() {
        PolesInALake x = Due.lake("N2R01R13");
        x.pole(0, 0, 5, false);
        x.pole(0, 1, 5, false);
        x.pole(0, 2, 5, true);
        Due.due("year 0: wood 0", x.year(), 1);
        Due.due("it fell", x.told(0, 6), 0);
        Due.due("its depth stays", x.told(0, 2), 5);
        x.pole(1, 1, 5, false);
        Due.due("put in year 1", x.told(3, 5), 1);
        Due.due("year 1", x.year(), 0);
        Due.due("year 2: wood 1", x.year(), 1);
        Due.due("pole 1 fell", x.told(1, 6), 0);
        Due.due("pole 3 stands", x.told(3, 6), 1);
        Due.due("year 3: the later one", x.year(), 1);
        Due.due("year 4: wood 2", x.year(), 1);
        Due.due("year 5", x.year(), 0);
        Due.due("the year", x.count(4), 6);
        Due.due("all fell", x.count(2), 0);
        x = Due.lake("N2I2R01");
        x.pole(0, 0, 1, false);
        Due.due("a pole falls just once", x.year(), 1);
    }

    private static void down() {
        PolesInALake x = Due.lake("N2R01");
        x.house(0, 0, 500);
        x.house(1, 1, 3);
        x.pole(0, 0, 9, false);
        Due.due("not down", x.home(0, 3), 0);
        Due.due("one falls", x.year(), 1);
        Due.due("down with its last pole", x.home(0, 3), 1);
        Due.due("down without any pole", x.home(1, 3), 1);
        Due.due("what it weighed as told", x.home(0, 4), 500);
        x.pole(0, 1, 2, false);
        Due.due("a new pole is of it", x.home(0, 0), 1);
        Due.due("but it weighs nothing", x.home(0, 1), 0);
        Due.due("and is not up", x.home(0, 3), 1);
        x.year();
        Due.due("nothing sinks", x.told(1, 2), 2);
        Due.due("still down", x.home(0, 3), 1);
        x = new PolesInALake();
        x.house(0, 0, 5);
        x.pole(0, 0, 15, false);
        Due.years(x, 4);
        x.pole(0, 0, 15, false);
        Due.due("one falls, one stands", x.year(), 1);
        Due.due("so it is not down", x.home(0, 3), 0);
    }

    private static void off() {
        PolesInALake x = Due.lake("N2I6M2");
        x.house(0, 1, 10);
        x.pole(0, 0, 3, false);
        x.pole(1, 0, 3, false);
        x.pole(1, 0, 2, true);
        Due.due("level", x.home(0, 2), 0);
        x.year();
        Due.due("share 4, holds 6, 6, 9", x.home(0, 2), 0);
        x = Due.lake("N2I6");
        x.house(0, 1, 60);
        x.pole(0, 0, 15, false);
        x.pole(1, 0, 5, false);
        x.pole(1, 0, 6, false);
        x.year();
        Due.due("pole 0 holds 45", x.told(0, 2), 15);
        Due.due("pole 1 is lifted to 4, holds 4, sinks by 4", x.told(1, 2), 8);
        Due.due("pole 2 holds 9, sinks by 3", x.told(2, 2), 9);
        Due.due("off by 3", x.home(0, 2), 3);
        x.pole(10, 0, 2, false);
        x.year();
        Due.due("pole 1 holds 17, sinks by 1", x.told(1, 2), 9);
        Due.due("a pole beside it is lifted", x.told(3, 2), 1);
        Due.due("but set aside", x.home(0, 2), 4);
        x = Due.lake("N2I6");
        x.house(0, 1, 1);
        x.pole(0, 0, 5, false);
        x.pole(1, 0, 15, false);
        x.year();
        x.year();
        Due.due("lifted by two", x.told(0, 2), 3);
        Due.due("off by what ice lifts", x.home(0, 2), 2);
        x = new PolesInALake();
        x.house(0, 0, 500);
        x.pole(0, 0, 1, false);
        x.year();
        Due.due("one pole is level with itself", x.home(0, 2), 0);
    }
}
