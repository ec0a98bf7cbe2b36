/** Promises 13 to 18: what if years go by, menders and their rules, the build of least work. */
public final class WhatIfTest {
    private static final int UNKNOWN = PolesInALake.UNKNOWN;
    private static final int OUTSIDE = PolesInALake.OUTSIDE;
    private static final int NONE = PolesInALake.NONE;

    public static void main(String[] args) {
        down();
        off();
        ruleOne();
        ruleTwo();
        ruleThree();
        mendedPole();
        bestOfSeveral();
        fellBefore();
        housesInTurn();
        downNow();
        refusals();
        build();
        buildInIce();
        buildRefusals();
        Due.end();
    }

    private static void down() {
        PolesInALake x = new PolesInALake();
        x.pole(0, 0, 15, false);
        x.house(0, 0, 1);
        Due.due("it falls in year 4", x.down(0, 60), 4);
        Due.due("the fifth year", x.down(0, 5), 4);
        Due.due("four years are too few", x.down(0, 4), NONE);
        Due.due("nothing is changed", x.count(4), 0);
        Due.due("nothing fell", x.count(2), 1);
        Due.years(x, 2);
        Due.due("the year is told, not how many", x.down(0, 3), 4);
        Due.due("two more", x.down(0, 2), NONE);
        x.house(1, 1, 1);
        Due.due("a house without poles", x.down(1, 1), 2);
        Due.years(x, 3);
        Due.due("it is down", x.home(0, 3), 1);
        Due.due("down now", x.down(0, 60), NONE);
    }

    private static void off() {
        PolesInALake x = new PolesInALake();
        x.house(0, 1, 20);
        x.pole(0, 0, 15, false);
        x.pole(1, 0, 1, false);
        // share 10: holds 1, sinks 2; holds 3, sinks 2; holds 5, sinks 1; holds 9, sinks 1
        Due.due("more than 0", x.off(0, 60, 0), 0);
        Due.due("more than 1", x.off(0, 60, 1), 0);
        Due.due("more than 2", x.off(0, 60, 2), 1);
        Due.due("more than 3", x.off(0, 60, 3), 1);
        Due.due("more than 4", x.off(0, 60, 4), 2);
        Due.due("more than 5", x.off(0, 60, 5), 3);
        Due.due("more than 6", x.off(0, 60, 6), NONE);
        Due.due("more than 15", x.off(0, 60, 15), NONE);
        Due.due("three years", x.off(0, 3, 5), NONE);
        Due.due("four years", x.off(0, 4, 5), 3);
        Due.due("nothing is changed", x.home(0, 2), 0);
        x.year();
        Due.due("off behind the year", x.home(0, 2), 2);
        Due.due("the year now is told", x.off(0, 60, 0), 1);
        Due.due("more than 4 still in year 2", x.off(0, 60, 4), 2);
    }

    private static void ruleOne() {
        PolesInALake x = Due.lake("N2R03");
        x.house(0, 1, 1);
        x.pole(0, 0, 15, false);
        x.pole(1, 1, 15, false);
        // put ahead of years 3, 5, 6, 8, 9, 11, 12, ..; the 22nd and last ahead of year 35
        int[] taken = {0, 0, 0, 1, 1, 2, 3, 3, 4, 5, 5, 6, 7};
        for (int n = 1; n <= taken.length; n++) {
            Due.due("rule 1 in " + n, x.takes(1, n), taken[n - 1]);
            Due.due("rule 3 in " + n, x.takes(3, n), taken[n - 1]);
            Due.due("rule 0 in " + n, x.takes(0, n), 0);
        }
        Due.due("ahead of year 33", x.takes(1, 35), 21);
        Due.due("the last one", x.takes(1, 36), 22);
        Due.due("no room", x.takes(1, 60), 22);
        Due.due("down by rule 0", x.mended(0, 0, 60), 4);
        Due.due("down without", x.down(0, 60), 4);
        Due.due("down by rule 1", x.mended(1, 0, 60), 37);
        Due.due("just then", x.mended(1, 0, 38), 37);
        Due.due("not yet", x.mended(1, 0, 37), NONE);
        Due.due("down by rule 2", x.mended(2, 0, 60), 4);
        Due.due("nothing needed", x.bestRule(0, 4), 0);
        Due.due("rule 1, as good as 3", x.bestRule(0, 5), 1);
        Due.due("still", x.bestRule(0, 37), 1);
        Due.due("none helps", x.bestRule(0, 38), NONE);
        Due.due("nothing is put", x.count(1), 2);
        Due.due("no year went by", x.count(4), 0);
    }

    private static void ruleTwo() {
        PolesInALake x = new PolesInALake();
        x.house(0, 1, 10);
        x.pole(1, 0, 5, false);
        Due.due("share 10, holds 5", x.takes(2, 1), 1);
        Due.due("share 5 is not more", x.takes(2, 60), 1);
        Due.due("rule 1 has nothing to do", x.takes(1, 60), 0);
        Due.due("both fall in year 4", x.mended(2, 0, 60), 4);
        x = Due.lake("N3D019M1C9");
        x.house(1, 12, 200);
        x.pole(12, 2, 15, true);
        // new ones stand at 1, in nine feet of mud, sink to 15 feet and hold 63 then
        Due.due("share 200 on 100", x.takes(2, 1), 1);
        Due.due("share 100 on 63", x.takes(2, 2), 2);
        Due.due("share 67 on 63", x.takes(2, 3), 3);
        Due.due("share 50 on 63", x.takes(2, 4), 3);
        x = new PolesInALake();
        x.house(0, 0, 10);
        Due.due("no pole, nothing to hold", x.takes(2, 5), 0);
        x = Due.lake("N2R01R19");
        x.house(0, 1, 30);
        x.pole(0, 0, 8, false);
        x.pole(1, 1, 8, false);
        // the one in cell 0 rots in a year; the share is then 30, more than 17
        Due.due("behind the first year", x.takes(2, 2), 1);
        Due.due("a new one each year until the other holds", x.takes(2, 3), 2);
    }

    private static void ruleThree() {
        PolesInALake x = Due.lake("N2R01R19");
        x.house(0, 1, 30);
        x.pole(0, 0, 8, false);
        x.pole(1, 1, 8, false);
        Due.due("rule 1 makes rule 2 needless", x.takes(3, 2), 1);
        Due.due("rule 1 alone", x.takes(1, 2), 1);
        x = new PolesInALake();
        x.house(0, 0, 200);
        x.pole(0, 0, 5, false);
        x.pole(0, 0, 5, false);
        Due.years(x, 1);
        x.pole(0, 0, 5, false);
        Due.years(x, 4);
        Due.due("two fell", x.count(2), 1);
        // two for the fallen ones: share 67; then one more, for that is more than 21
        Due.due("both rules", x.takes(3, 1), 3);
        Due.due("rule 1", x.takes(1, 1), 2);
        Due.due("rule 2", x.takes(2, 1), 1);
    }

    private static void mendedPole() {
        // a new pole is nine feet deep and has no collar: it holds 9 here
        Due.due("share 9 is not too much", mendedUnder(18).takes(3, 1), 1);
        Due.due("share 10 is", mendedUnder(19).takes(3, 1), 2);
    }

    private static PolesInALake mendedUnder(int weight) {
        PolesInALake x = Due.lake("N2D009R11");
        x.house(0, 0, weight);
        x.pole(0, 0, 15, false);
        x.pole(0, 1, 15, false);
        x.year();
        return x;
    }

    private static void bestOfSeveral() {
        PolesInALake x = Due.lake("N2R09R11R22");
        x.house(0, 0, 30);
        x.pole(0, 1, 5, false);
        x.pole(0, 1, 5, false);
        x.pole(0, 2, 5, false);
        Due.due("two fall", x.year(), 2);
        Due.due("rule 0: down", x.mended(0, 0, 1), 1);
        Due.due("rule 1 takes two", x.takes(1, 1), 2);
        Due.due("rule 2 takes one", x.takes(2, 1), 1);
        Due.due("rule 3 takes three", x.takes(3, 1), 3);
        Due.due("so rule 2 is best", x.bestRule(0, 1), 2);
    }

    private static void fellBefore() {
        PolesInALake x = Due.lake("N3R01R19");
        x.house(0, 1, 1);
        x.pole(0, 0, 15, false);
        x.pole(0, 0, 15, false);
        x.pole(1, 1, 15, false);
        x.pole(22, 0, 15, false);
        Due.due("none fell before", x.takes(1, 1), 0);
        Due.due("three fall", x.year(), 3);
        Due.due("two of them of the house", x.takes(1, 1), 2);
        Due.due("these fall at once", x.takes(1, 2), 4);
        x.keep(1);
        Due.due("a year later none", x.year(), 0);
        Due.due("the year before none fell", x.takes(1, 1), 0);
        x.again(1);
        Due.due("as kept", x.takes(1, 1), 2);
        x = Due.lake("N2I2");
        x.house(0, 1, 1);
        x.pole(0, 0, 1, false);
        x.pole(1, 1, 15, false);
        x.year();
        Due.due("one that fell by ice", x.takes(1, 1), 1);
    }

    private static void housesInTurn() {
        PolesInALake x = Due.lake("N2R01R19R29");
        x.house(1, 1, 500);
        x.house(0, 0, 500);
        x.pole(0, 1, 15, false);
        x.pole(1, 1, 15, false);
        Due.due("one for each house", x.takes(2, 1), 2);
        for (int k = 2; k < 23; k++) {
            x.pole(10, 2, 1, false);
        }
        Due.due("room for one", x.count(1), 23);
        Due.due("so one is put", x.takes(2, 1), 1);
        x = Due.lake("N2R05R19M0C1");
        x.house(1, 1, 16);
        x.house(0, 0, 16);
        x.pole(0, 0, 15, false);
        x.pole(1, 0, 15, false);
        Due.years(x, 2);
        for (int k = 2; k < 23; k++) {
            x.pole(10, 1, 1, false);
        }
        // the only one that there is room for comes into the cell of house 0
        Due.due("house 0 stands longer", x.mended(2, 0, 9), 6);
        Due.due("house 1 does not", x.mended(2, 1, 9), 4);
    }

    private static void downNow() {
        PolesInALake x = Due.lake("N2R01");
        x.house(0, 0, 9);
        x.house(1, 1, 9);
        x.pole(0, 0, 5, false);
        x.pole(1, 1, 15, false);
        Due.due("it falls", x.year(), 1);
        Due.due("a house that is down is not mended", x.takes(1, 1), 0);
        Due.due("by no rule", x.mended(1, 0, 9), NONE);
        Due.due("no best one", x.bestRule(0, 1), NONE);
        Due.due("the other needs none", x.bestRule(1, 3), 0);
        x.pole(0, 1, 1, false);
        Due.due("it weighs nothing, so rule 2 puts none", x.takes(2, 1), 0);
        Due.due("down stays down", x.bestRule(0, 1), NONE);
    }

    private static void refusals() {
        PolesInALake x = new PolesInALake();
        Due.due("down: no house", x.down(0, 1), UNKNOWN);
        x.house(0, 0, 1);
        x.pole(0, 0, 9, false);
        Due.due("down: -1 ahead of n", x.down(-1, 0), UNKNOWN);
        Due.due("down: 1 ahead of n", x.down(1, 61), UNKNOWN);
        Due.due("down: 0", x.down(0, 0), OUTSIDE);
        Due.due("down: 61", x.down(0, 61), OUTSIDE);
        Due.due("down: 60", x.down(0, 60), 4);
        Due.due("off: house ahead", x.off(1, 0, 16), UNKNOWN);
        Due.due("off: n 0", x.off(0, 0, 0), OUTSIDE);
        Due.due("off: n 61", x.off(0, 61, 0), OUTSIDE);
        Due.due("off: x -1", x.off(0, 1, -1), OUTSIDE);
        Due.due("off: x 16", x.off(0, 1, 16), OUTSIDE);
        Due.due("off: x 15", x.off(0, 1, 15), NONE);
        Due.due("takes: rule -1", x.takes(-1, 1), OUTSIDE);
        Due.due("takes: rule 4", x.takes(4, 1), OUTSIDE);
        Due.due("takes: n 0", x.takes(0, 0), OUTSIDE);
        Due.due("takes: n 61", x.takes(3, 61), OUTSIDE);
        Due.due("mended: house ahead", x.mended(4, 1, 0), UNKNOWN);
        Due.due("mended: rule 4", x.mended(4, 0, 1), OUTSIDE);
        Due.due("mended: rule -1", x.mended(-1, 0, 1), OUTSIDE);
        Due.due("mended: n 0", x.mended(0, 0, 0), OUTSIDE);
        Due.due("mended: n 61", x.mended(0, 0, 61), OUTSIDE);
        Due.due("bestRule: house ahead", x.bestRule(1, 0), UNKNOWN);
        Due.due("bestRule: n 0", x.bestRule(0, 0), OUTSIDE);
        Due.due("bestRule: n 61", x.bestRule(0, 61), OUTSIDE);
    }

    private static void build() {
        PolesInALake x = new PolesInALake();
        Due.due("a foot holds 1", x.build(0, 1, 4), 1002);
        Due.due("three feet of mud", x.build(0, 3, 1), 3006);
        Due.due("four feet, or one with a collar: the less deep one", x.build(0, 4, 1), 4003);
        Due.due("six feet hold 9, one with a collar 6", x.build(0, 6, 1), 4003);
        Due.due("six feet against two with a collar", x.build(0, 7, 1), 5005);
        Due.due("six feet, or three with a collar: the less deep one", x.build(0, 8, 1), 6007);
        Due.due("six feet are less work", x.build(0, 9, 1), 6012);
        Due.due("seven feet hold 13", x.build(0, 13, 1), 7014);
        Due.due("15 feet", x.build(0, 45, 1), 15030);
        Due.due("14 feet and a collar", x.build(0, 46, 1), 17029);
        Due.due("15 feet and a collar", x.build(0, 50, 1), 18031);
        Due.due("it would sink, though it is 15 feet deep", x.build(0, 51, 1), NONE);
        Due.due("it rots", x.build(0, 1, 5), NONE);
        x = Due.lake("N2B3");
        Due.due("four feet, or one with a collar", x.build(0, 4, 1), 4003);
        x = Due.lake("N2R01R19");
        Due.due("wood 1", x.build(0, 1, 3), 3102);
        Due.due("wood 1 lasts 9", x.build(0, 1, 8), 3102);
        Due.due("but is rotten behind 9", x.build(0, 1, 9), NONE);
        x = Due.lake("N2R03R12R29");
        Due.due("wood 0 lasts", x.build(0, 1, 2), 1002);
        Due.due("wood 1 does not either", x.build(0, 1, 3), 5202);
        x = Due.lake("N2R01R11");
        Due.due("wood 2", x.build(11, 1, 4), 5202);
        Due.due("none lasts a year but wood 2", x.build(11, 1, 1), 5202);
        x = Due.lake("N3D120M0C9B0");
        Due.due("clay at once", x.build(12, 18, 1), 2004);
        Due.due("behind five feet of nothing", x.build(11, 18, 1), 7014);
        x = new PolesInALake();
        x.house(0, 11, 999);
        x.pole(0, 0, 1, false);
        x.year();
        Due.due("what is there is set aside", x.build(0, 1, 4), 1002);
        Due.due("and nothing is changed", x.count(1), 1);
    }

    private static void buildInIce() {
        PolesInALake x = Due.lake("N2I9");
        Due.due("lifted a foot", x.build(0, 1, 1), 2004);
        Due.due("lifted two feet", x.build(0, 1, 2), 3006);
        Due.due("lifted four feet", x.build(0, 1, 4), 5010);
        Due.due("it must hold behind the ice", x.build(0, 2, 1), 3006);
        Due.due("six feet hold 9: ice lifts it not", x.build(0, 9, 4), 6012);
        x = Due.lake("N2B9I9R09R19R29");
        Due.due("a collar against ice", x.build(0, 1, 8), 4003);
    }

    private static void buildRefusals() {
        PolesInALake x = new PolesInALake();
        Due.due("cell ahead of weight", x.build(2, 0, 0), UNKNOWN);
        Due.due("cell -1", x.build(-1, 1, 1), UNKNOWN);
        Due.due("weight 0", x.build(0, 0, 1), OUTSIDE);
        Due.due("weight 1000", x.build(0, 1000, 1), OUTSIDE);
        Due.due("weight 999", x.build(0, 999, 1), NONE);
        Due.due("n 0", x.build(0, 1, 0), OUTSIDE);
        Due.due("n 61", x.build(0, 1, 61), OUTSIDE);
        Due.due("n 60", x.build(0, 1, 60), NONE);
    }
}
