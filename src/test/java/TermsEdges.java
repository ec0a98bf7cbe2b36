/** The edges of all calls: the refusals and their order, what is not changed, and the 512 calls. */
final class TermsEdges {
    private static final int UNKNOWN = PolesInALake.UNKNOWN;
    private static final int OUTSIDE = PolesInALake.OUTSIDE;
    private static final int STATE = PolesInALake.STATE;
    private static final int FULL = PolesInALake.FULL;
    private static final int NONE = PolesInALake.NONE;

    private TermsEdges() {
    }

    static void all() {
        calls512();
        lateYears();
        firstNamed();
        firstNamedOfFull();
        unknown();
        outside();
        state();
        full();
        changesNothing();
        none();
    }

    private static void calls512() {
        Doc.says("What it is", "An object is used for at most 512 calls after it has been made; what later calls answer is free.");
        PolesInALake x = new PolesInALake();
        for (int k = 0; k < 511; k++) {
            x.year();
        }
        Due.due("the 512th call", x.count(4), 511);
        x = new PolesInALake();
        for (int k = 0; k < 511; k++) {
            x.find(0, 0, 60);
        }
        Due.due("the 512th call, behind refused ones", x.find(0, 0, 59), 0);
        x = new PolesInALake();
        for (int k = 0; k < 255; k++) {
            x.write(8, -1L);
            x.wipe();
        }
        x.write(2, 0x4E36L);
        Due.due("the 512th call, behind texts", x.lake(), 1);
        x = new PolesInALake();
        for (int k = 0; k < 128; k++) {
            Due.due("keep", x.keep(k % 2), 0);
            Due.due("pole", x.pole(0, 0, 1, false), 0);
            Due.due("down", x.down(0, 60), UNKNOWN);
            Due.due("again", x.again(k % 2), 0);
        }
    }

    /** In so many calls years can come to more than 500. */
    private static void lateYears() {
        PolesInALake x = Due.lake("N2R09");
        for (int k = 0; k < 480; k++) {
            x.year();
        }
        x.house(0, 0, 1);
        Due.due("without a pole", x.down(0, 60), 480);
        x.pole(0, 0, 15, false);
        Due.due("put in", x.told(0, 5), 480);
        Due.due("down", x.down(0, 60), 488);
        Due.due("mended", x.mended(1, 0, 60), 488);
        Due.due("best rule", x.bestRule(0, 8), 0);
        for (int k = 0; k < 8; k++) {
            Due.due("it stands", x.year(), 0);
        }
        Due.due("it falls", x.year(), 1);
        Due.due("the year", x.count(4), 489);
    }

    private static void firstNamed() {
        Doc.says("Terms", "REFUSALS, of several the first that a call names:");
        PolesInALake x = new PolesInALake();
        Due.due("pole: cell, wood, depth", x.pole(2, 3, 0, false), UNKNOWN);
        Due.due("told: pole, what", x.told(0, 8), UNKNOWN);
        Due.due("house: cells, weight", x.house(2, 0, 0), UNKNOWN);
        Due.due("house: weight, state", x.house(1, 0, 0), OUTSIDE);
        Due.due("home: house, what", x.home(0, 5), UNKNOWN);
        Due.due("down: house, n", x.down(0, 0), UNKNOWN);
        Due.due("off: house, n, x", x.off(0, 0, 16), UNKNOWN);
        Due.due("mended: house, rule, n", x.mended(4, 0, 0), UNKNOWN);
        Due.due("bestRule: house, n", x.bestRule(0, 0), UNKNOWN);
        Due.due("build: cell, weight, n", x.build(2, 0, 0), UNKNOWN);
        Due.due("wet: feet, none told", x.wet(22, 1, true), OUTSIDE);
        Due.due("wet: n, none told", x.wet(0, 0, false), OUTSIDE);
        Due.due("dry: n, none told", x.dry(0, 0), OUTSIDE);
        Due.due("dry: x, none told", x.dry(1, 101), OUTSIDE);
        Due.due("ring: ring year, width", x.ring(60, 10), UNKNOWN);
        Due.due("match: n is asked first", x.match(0, 0, 60), OUTSIDE);
        Due.due("match: rings are asked first", x.match(1, 10, 60), OUTSIDE);
        Due.due("again: slot, none kept", x.again(2), UNKNOWN);
    }

    private static void firstNamedOfFull() {
        PolesInALake x = RefusalsTest.full();
        Due.due("write: n, full", x.write(0, 0), OUTSIDE);
        Due.due("write: n, full", x.write(9, 0), OUTSIDE);
        Due.due("pole: cell, full", x.pole(3, 0, 1, false), UNKNOWN);
        Due.due("pole: wood, full", x.pole(0, 3, 1, false), UNKNOWN);
        Due.due("pole: depth, full", x.pole(0, 0, 16, false), OUTSIDE);
        Due.due("house: cells, full", x.house(20, 23, 1), UNKNOWN);
        Due.due("house: weight, full", x.house(20, 20, 0), OUTSIDE);
        Due.due("house: left, full", x.house(21, 20, 1), STATE);
        Due.due("house: a house there, full", x.house(10, 20, 1), STATE);
        Due.due("house: weight, a house there, full", x.house(0, 0, 1000), OUTSIDE);
        Due.due("rise: feet, full", x.rise(21), OUTSIDE);
        Due.due("find: cell, full", x.find(3, 0, 0), UNKNOWN);
        Due.due("find: wood, full", x.find(0, 3, 0), UNKNOWN);
        Due.due("find: ring year, full", x.find(0, 0, 60), UNKNOWN);
    }

    private static void unknown() {
        Doc.says("Terms", "UNKNOWN (there is no such CELL, POLE, WOOD, HOUSE, FIND, YEAR, SLOT),");
        PolesInALake x = RefusalsTest.full();
        Due.due("UNKNOWN", UNKNOWN, -1);
        Due.due("cell", x.clay(33), UNKNOWN);
        Due.due("pole", x.told(24, 0), UNKNOWN);
        Due.due("wood", x.pole(0, 3, 1, false), UNKNOWN);
        Due.due("house", x.home(6, 0), UNKNOWN);
        Due.due("find", x.group(16), UNKNOWN);
        Due.due("year", x.ring(60, 0), UNKNOWN);
        Due.due("slot", x.keep(2), UNKNOWN);
    }

    private static void outside() {
        Doc.says("Terms", "OUTSIDE (another number is not as told),");
        PolesInALake x = RefusalsTest.full();
        Due.due("OUTSIDE", OUTSIDE, -2);
        Due.due("about", x.about(8), OUTSIDE);
        Due.due("told", x.told(23, 8), OUTSIDE);
        Due.due("home", x.home(5, 5), OUTSIDE);
        Due.due("down", x.down(5, 61), OUTSIDE);
        Due.due("off", x.off(5, 60, 16), OUTSIDE);
        Due.due("takes", x.takes(4, 60), OUTSIDE);
        Due.due("mended", x.mended(4, 5, 60), OUTSIDE);
        Due.due("bestRule", x.bestRule(5, 61), OUTSIDE);
        Due.due("build", x.build(22, 1000, 60), OUTSIDE);
        Due.due("wet", x.wet(22, 6, true), OUTSIDE);
        Due.due("dry", x.dry(6, 101), OUTSIDE);
        Due.due("ring", x.ring(59, 10), OUTSIDE);
        Due.due("dated", x.dated(10, 0), OUTSIDE);
        Due.due("sure", x.sure(9, 1000000000), OUTSIDE);
        Due.due("count", x.count(6), OUTSIDE);
    }

    private static void state() {
        Doc.says("Terms", "STATE (as told),");
        PolesInALake x = new PolesInALake();
        Due.due("STATE", STATE, -3);
        Due.due("lake", x.lake(), STATE);
        Due.due("house", x.house(1, 0, 1), STATE);
        Due.due("wet", x.wet(21, 6, true), STATE);
        Due.due("dry", x.dry(6, 100), STATE);
        Due.due("unfind", x.unfind(), STATE);
        Due.due("again", x.again(1), STATE);
    }

    private static void full() {
        Doc.says("Terms", "FULL.");
        PolesInALake x = RefusalsTest.full();
        Due.due("FULL", FULL, -4);
        Due.due("write", x.write(1, 0), FULL);
        Due.due("pole", x.pole(22, 2, 15, true), FULL);
        Due.due("house", x.house(20, 22, 999), FULL);
        Due.due("rise", x.rise(20), FULL);
        Due.due("find", x.find(22, 2, 59), FULL);
    }

    /** RefusalsTest has all calls for this; here are those of each refusal. */
    private static void changesNothing() {
        Doc.says("Terms", "What is refused changes nothing.");
        Twins village = new Twins("a village", RefusalsTest::village);
        village.refuses("pole UNKNOWN", UNKNOWN, x -> x.pole(0, 3, 1, true));
        village.refuses("pole OUTSIDE", OUTSIDE, x -> x.pole(0, 0, 16, true));
        village.refuses("house UNKNOWN", UNKNOWN, x -> x.house(10, 13, 5));
        village.refuses("house OUTSIDE", OUTSIDE, x -> x.house(10, 12, 1000));
        village.refuses("house STATE", STATE, x -> x.house(12, 10, 5));
        village.refuses("rise OUTSIDE", OUTSIDE, x -> x.rise(21));
        village.refuses("ring UNKNOWN", UNKNOWN, x -> x.ring(60, 5));
        village.refuses("ring OUTSIDE", OUTSIDE, x -> x.ring(5, 10));
        village.refuses("find UNKNOWN", UNKNOWN, x -> x.find(0, 0, 60));
        village.refuses("keep UNKNOWN", UNKNOWN, x -> x.keep(2));
        village.refuses("again UNKNOWN", UNKNOWN, x -> x.again(-1));
        village.refuses("again STATE", STATE, x -> x.again(1));
        village.refuses("write OUTSIDE", OUTSIDE, x -> x.write(9, 0));
        village.areAlike();
        Twins full = new Twins("all full", RefusalsTest::full);
        full.refuses("write FULL", FULL, x -> x.write(1, 0));
        full.refuses("pole FULL", FULL, x -> x.pole(0, 0, 1, false));
        full.refuses("house FULL", FULL, x -> x.house(20, 22, 1));
        full.refuses("rise FULL", FULL, x -> x.rise(0));
        full.refuses("find FULL", FULL, x -> x.find(0, 0, 0));
        full.areAlike();
        Twins fresh = new Twins("a new object", PolesInALake::new);
        fresh.refuses("lake STATE", STATE, x -> x.lake());
        fresh.refuses("unfind STATE", STATE, x -> x.unfind());
        fresh.areAlike();
    }

    private static void none() {
        Doc.says("Terms", "NONE is -9.");
        Due.due("NONE", NONE, -9);
        PolesInALake x = Due.lake("N2");
        Due.due("fault", x.fault(), NONE);
        x.house(0, 0, 1);
        x.pole(0, 0, 1, false);
        x.find(0, 0, 0);
        Due.due("down", x.down(0, 1), NONE);
        Due.due("off", x.off(0, 1, 0), NONE);
        Due.due("mended", x.mended(0, 0, 1), NONE);
        Due.due("bestRule", x.bestRule(0, 5), NONE);
        Due.due("build", x.build(0, 999, 1), NONE);
        Due.due("later", x.later(0), NONE);
        x.unfind();
        Due.due("dig", x.dig(), NONE);
    }
}
