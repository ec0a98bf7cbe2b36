/** The edges that part 3 of the terms and promises 13 to 18 name: what if, menders, the build. */
final class WhatIfEdges {
    private static final int UNKNOWN = PolesInALake.UNKNOWN;
    private static final int OUTSIDE = PolesInALake.OUTSIDE;
    private static final int NONE = PolesInALake.NONE;

    private WhatIfEdges() {
    }

    static void all() {
        years();
        nothingIsChanged();
        whenDown();
        whenOff();
        ruleOne();
        ruleOneHouses();
        ruleOnePole();
        ruleTwo();
        ruleTwoLeastCell();
        ruleTwoNineFeet();
        ruleThreeAndZero();
        withoutRoom();
        takesInYears();
        bestNotDown();
        bestOfAllHouses();
        buildYears();
        buildAlone();
        buildNotDown();
        buildNotSinking();
        buildWork();
        buildTold();
        down();
        downRefused();
        off();
        offRefused();
        takes();
        mended();
        mendedRefused();
        bestRule();
        bestRuleRefused();
        build();
        buildRefused();
    }

    /** A house of cell 0 that weighs 1, on one pole of wood 0. */
    private static PolesInALake standing(String lake) {
        PolesInALake x = Due.lake(lake);
        x.house(0, 0, 1);
        x.pole(0, 0, 15, false);
        return x;
    }

    /**
     * Two poles, of which one falls at once; by rule 1 there are two poles put in five years, ahead
     * of the years 1, 5, 6, 10, 11, .., the last that has room ahead of 55: it falls at the end of 59.
     */
    private static PolesInALake sixtyYears() {
        PolesInALake x = Due.lake("N2R05R11");
        x.house(0, 0, 1);
        x.pole(0, 1, 15, false);
        x.pole(0, 0, 15, false);
        return x;
    }

    private static void years() {
        Doc.says("Terms", "What if: n YEARS (1 to 60) go by from now on");
        Edge.bounds("down", 1, 60, OUTSIDE, n -> standing("N2").down(0, n));
        Edge.bounds("off", 1, 60, OUTSIDE, n -> standing("N2").off(0, n, 0));
        Edge.bounds("takes", 1, 60, OUTSIDE, n -> standing("N2").takes(3, n));
        Edge.bounds("mended", 1, 60, OUTSIDE, n -> standing("N2").mended(3, 0, n));
        Edge.bounds("bestRule", 1, 60, OUTSIDE, n -> standing("N2").bestRule(0, n));
        PolesInALake x = standing("N2R03");
        Due.due("from the year 0", x.down(0, 3), 2);
        x.year();
        Due.due("from the year 1", x.down(0, 2), 2);
        x.year();
        Due.due("from the year 2", x.down(0, 1), 2);
    }

    private static void nothingIsChanged() {
        Doc.says("Terms", "(nothing is changed by that):");
        Twins twins = new Twins("a village", RefusalsTest::village);
        for (int n : new int[] {1, 2, 59, 60}) {
            for (int rule = 0; rule < 4; rule++) {
                int by = rule;
                twins.asks(x -> x.takes(by, n));
                twins.asks(x -> x.mended(by, 0, n));
            }
            twins.asks(x -> x.down(0, n));
            twins.asks(x -> x.off(0, n, 15));
            twins.asks(x -> x.bestRule(0, n));
            twins.asks(x -> x.build(0, 1, n));
        }
        twins.areAlike();
    }

    private static void whenDown() {
        Doc.says("Terms", "whether a HOUSE is DOWN then, and when it became so;");
        for (int lasts = 1; lasts <= 9; lasts++) {
            PolesInALake x = standing("N2R0" + lasts);
            for (int n = 1; n <= 12; n++) {
                Due.due("lasts " + lasts + ", " + n + " years", x.down(0, n), n >= lasts ? lasts - 1 : NONE);
            }
            Due.due("lasts " + lasts + ", 60 years", x.down(0, 60), lasts - 1);
        }
        PolesInALake x = sixtyYears();
        Due.due("the last of 60 years", x.mended(1, 0, 60), 59);
        Due.due("59 years", x.mended(1, 0, 59), NONE);
    }

    private static void whenOff() {
        Doc.says("Terms", "the first YEAR behind which it is OFF by more than x.");
        PolesInALake x = PolesEdges.apart();
        for (int by = 0; by <= 15; by++) {
            // behind the year k it is off by 2 k and 2
            int year = by / 2;
            Due.due("more than " + by, x.off(0, 60, by), year);
            Due.due("more than " + by + ", in just so many years", x.off(0, year + 1, by), year);
            if (year > 0) {
                Due.due("more than " + by + ", in one less", x.off(0, year, by), NONE);
            }
        }
        x = Due.lake("N2R02");
        x.house(0, 1, 20);
        x.pole(0, 0, 1, false);
        x.year();
        x.pole(1, 1, 15, false);
        Due.due("off now by 4", x.home(0, 2), 4);
        Due.due("but not behind a year, for the pole that sank falls", x.off(0, 60, 3), NONE);
        Due.due("by 0", x.off(0, 60, 0), NONE);
    }

    private static void ruleOne() {
        Doc.says("Terms", "MENDERS by a RULE, ahead of each YEAR,");
        Doc.says("Terms", "into the CELL of each POLE that FELL in the YEAR before, if it was of the HOUSE;");
        PolesInALake x = Due.lake("N3R01R19");
        x.house(0, 1, 1);
        x.pole(1, 1, 15, false);
        Due.due("none falls but the last one, and then it is down", x.takes(1, 60), 0);
        x.pole(0, 0, 15, false);
        x.pole(0, 0, 15, false);
        x.pole(10, 0, 15, false);
        x.pole(2, 0, 15, false);
        Due.due("ahead of the year in which they fall", x.takes(1, 1), 0);
        Due.due("ahead of the next one: two of the house", x.takes(1, 2), 2);
        Due.due("four fall", x.year(), 4);
        Due.due("ahead of the first year: those that fell in the year before", x.takes(1, 1), 2);
        Due.due("none falls", x.year(), 0);
        Due.due("the year before that is too long ago", x.takes(1, 1), 0);
        x = Due.lake("N2I2");
        x.house(0, 0, 1);
        x.pole(0, 0, 9, false);
        x.pole(0, 0, 1, false);
        Due.due("by ice", x.year(), 1);
        Due.due("it is mended too", x.takes(1, 1), 1);
    }

    private static void ruleOneHouses() {
        Doc.says("Terms", "HOUSE by HOUSE (not DOWN):");
        PolesInALake x = Due.lake("N2R01R19");
        x.house(0, 0, 1);
        x.house(1, 1, 1);
        x.house(10, 10, 1);
        x.pole(0, 0, 15, false);
        x.pole(1, 0, 15, false);
        x.pole(1, 1, 15, false);
        x.pole(10, 0, 15, false);
        x.pole(10, 1, 15, false);
        Due.due("three fall", x.year(), 3);
        Due.due("house 0 is down", x.home(0, 3), 1);
        Due.due("so it is not mended", x.takes(1, 1), 2);
        Due.due("it stays down", x.mended(1, 0, 60), NONE);
        // room for one only: it is put for house 1, not for house 2
        x = Due.lake("N2R03R19");
        x.house(1, 1, 1);
        x.house(0, 0, 1);
        x.pole(1, 2, 15, false);
        x.pole(0, 2, 15, false);
        Due.years(x, 3);
        x.pole(1, 0, 15, false);
        x.pole(0, 0, 15, false);
        for (int k = 4; k < 23; k++) {
            x.pole(10, 1, 15, false);
        }
        Due.years(x, 2);
        Due.due("both poles of wood 2 fell", x.told(0, 6) + x.told(1, 6), 0);
        Due.due("room for one", x.takes(1, 60), 1);
        Due.due("house 0 is mended, ahead of the year 5", x.mended(1, 0, 60), 7);
        Due.due("house 1 is not", x.mended(1, 1, 60), 5);
    }

    private static void ruleOnePole() {
        Doc.says("Terms", "RULE 1 puts a POLE (of WOOD 0, 9 feet, no collar)");
        // nine feet of mud hold 9: rule 3 puts one more, if the share of two is more than that
        Due.due("share 9", fallenUnder("N2D009R11", 18).takes(3, 1), 1);
        Due.due("share 10", fallenUnder("N2D009R11", 19).takes(3, 1), 2);
        // eight feet would not come to the clay
        Due.due("share 4", fallenUnder("N2M0D008R11", 8).takes(3, 1), 1);
        Due.due("share 5", fallenUnder("N2M0D008R11", 9).takes(3, 1), 2);
        PolesInALake x = Due.lake("N2R01R12R29");
        x.house(0, 0, 1);
        x.pole(0, 1, 15, false);
        x.pole(0, 2, 15, false);
        // put ahead of year 2, it falls at its end, and so on in each year
        int[] taken = {0, 0, 1, 2, 3, 4, 5};
        for (int n = 1; n <= taken.length; n++) {
            Due.due("of wood 0, in " + n, x.takes(1, n), taken[n - 1]);
        }
    }

    /** One pole of the house fell in the year before, one stands that holds enough. */
    private static PolesInALake fallenUnder(String lake, int weight) {
        PolesInALake x = Due.lake(lake);
        x.house(0, 0, weight);
        x.pole(0, 0, 15, true);
        x.pole(0, 1, 15, true);
        Due.due("one falls", x.year(), 1);
        return x;
    }

    private static void ruleTwo() {
        Doc.says("Terms", "if the SHARE is more than some POLE of it HOLDS;");
        Due.due("share 5, holds 5", underPoles(5, 5).takes(2, 1), 0);
        Due.due("share 6, holds 5", underPoles(6, 5).takes(2, 1), 1);
        Due.due("share 5 of 10, holds 5", underPoles(10, 5, 15).takes(2, 1), 0);
        Due.due("share 6 of 11, some holds 5", underPoles(11, 5, 15).takes(2, 1), 1);
        Due.due("share 6 of 11, some holds 5", underPoles(11, 15, 5).takes(2, 1), 1);
        Due.due("both hold 5: still one", underPoles(11, 5, 5).takes(2, 1), 1);
        Due.due("no pole", underPoles(999).takes(2, 60), 0);
        Due.due("15 feet hold 45", underPoles(45, 15).takes(2, 1), 0);
        Due.due("15 feet hold less than 46", underPoles(46, 15).takes(2, 1), 1);
        PolesInALake x = Due.lake("N2R01");
        x.house(0, 0, 999);
        x.pole(0, 0, 1, false);
        x.year();
        x.pole(0, 1, 1, false);
        Due.due("down, so it has no share", x.takes(2, 60), 0);
    }

    private static PolesInALake underPoles(int weight, int... depths) {
        PolesInALake x = new PolesInALake();
        x.house(0, 0, weight);
        for (int depth : depths) {
            x.pole(0, 1, depth, false);
        }
        return x;
    }

    private static void ruleTwoLeastCell() {
        Doc.says("Terms", "RULE 2 puts one into the least CELL of the HOUSE,");
        // in the least cell nine feet hold nothing, and 15 feet 54; in the others nine feet hold 81
        PolesInALake x = Due.lake("N3M0C9B9D119D120D210D220");
        x.house(11, 22, 120);
        x.pole(22, 1, 13, false);
        Due.due("117 is less than 120", x.takes(2, 1), 1);
        Due.due("54 is less than 60", x.takes(2, 2), 2);
        Due.due("54 is more than 40", x.takes(2, 3), 2);
        // the other way round: only the least cell holds
        x = Due.lake("N3M0C9D110D129D219D229");
        x.house(11, 22, 120);
        x.pole(11, 1, 13, false);
        Due.due("117 is less than 120", x.takes(2, 1), 1);
        Due.due("81 is more than 60", x.takes(2, 3), 1);
    }

    /** Ice of 9 lifts what holds 8, each year anew; two poles have a share of 9. */
    private static void ruleTwoNineFeet() {
        Doc.says("Terms", "RULE 2 puts one");
        PolesInALake x = Due.lake("N2C1D000I9R09R11");
        x.house(0, 0, 18);
        x.pole(0, 1, 9, false);
        Due.due("ahead of year 0, and of year 1, the first one having rotted", x.takes(2, 2), 2);
        Due.due("nine feet hold 9, eight would hold less", x.takes(2, 3), 2);
        x = Due.lake("N2M0C1D001I9R09R11");
        x.house(0, 0, 18);
        x.pole(0, 1, 10, false);
        Due.due("ahead of year 0 and of year 1", x.takes(2, 2), 2);
        Due.due("nine feet hold 8, ten would hold more", x.takes(2, 3), 3);
    }

    private static void ruleThreeAndZero() {
        Doc.says("Terms", "RULE 3 does both, first 1, then 2. RULE 0 does nothing.");
        PolesInALake x = Due.lake("N2R01R19");
        x.house(0, 1, 30);
        x.pole(0, 0, 8, false);
        x.pole(1, 1, 8, false);
        x.year();
        // share 30 is more than 17; with the fallen one put anew it is 15
        Due.due("rule 2 would put one", x.takes(2, 1), 1);
        Due.due("rule 1 puts one", x.takes(1, 1), 1);
        Due.due("and then rule 2 none", x.takes(3, 1), 1);
        x = Due.lake("N2R01R19");
        x.house(0, 1, 60);
        x.pole(0, 0, 8, false);
        x.pole(1, 1, 8, false);
        x.year();
        // the standing one sank from 8 feet to 11 and holds 29
        Due.due("holds", x.told(1, 7), 29);
        Due.due("share 30 of both is more than 29", x.takes(3, 1), 2);
        for (int n : new int[] {1, 2, 30, 60}) {
            Due.due("rule 0 in " + n, x.takes(0, n), 0);
            Due.due("as without", x.mended(0, 0, n), x.down(0, n));
        }
    }

    private static void withoutRoom() {
        Doc.says("Terms", "Without room (24 POLES, fallen ones too) none is put.");
        for (int poles = 3; poles <= 24; poles++) {
            PolesInALake x = Due.lake("N2R01R19");
            x.house(0, 0, 1);
            x.house(1, 1, 999);
            x.pole(0, 0, 15, false);
            x.pole(0, 0, 15, false);
            x.pole(0, 1, 15, false);
            for (int k = 3; k < poles; k++) {
                x.pole(10, 0, 15, false);
            }
            x.year();
            Due.due("those that stand", x.count(2), 1);
            Due.due(poles + " poles: rule 1", x.takes(1, 1), Math.min(2, 24 - poles));
            Due.due(poles + " poles: in all years", x.takes(1, 60) <= 24 - poles ? 1 : 0, 1);
        }
        PolesInALake x = underPoles(999, 15);
        Due.due("as many as have room", x.takes(2, 3), 3);
        for (int k = 1; k < 23; k++) {
            x.pole(10, 2, 15, false);
        }
        Due.due("room for one", x.takes(2, 1), 1);
        Due.due("then none", x.takes(2, 60), 1);
        x.pole(10, 2, 15, false);
        Due.due("no room", x.takes(2, 60), 0);
        Due.due("no room", x.takes(3, 60), 0);
    }

    private static void takesInYears() {
        Doc.says("Terms", "TAKES: how many are put in n YEARS.");
        PolesInALake x = sixtyYears();
        int taken = 0;
        for (int n = 1; n <= 60; n++) {
            int year = n - 1;
            boolean put = year % 5 == 0 || year % 5 == 1;
            taken += put && year > 0 && year <= 55 ? 1 : 0;
            Due.due("in " + n, x.takes(1, n), taken);
        }
        Due.due("22 in all", taken, 22);
    }

    private static void bestNotDown() {
        Doc.says("Terms", "BEST RULE for a HOUSE and n YEARS: that by which it is not DOWN then, and which TAKES fewest");
        Doc.says("Terms", "of like ones the least; NONE.");
        PolesInALake x = sixtyYears();
        Due.due("none needed", x.bestRule(0, 4), 0);
        Due.due("not down by rule 1, nor by rule 3", x.bestRule(0, 5), 1);
        Due.due("59 years", x.bestRule(0, 59), 1);
        Due.due("60 years", x.bestRule(0, 60), NONE);
        x = twoFallen();
        Due.due("rule 0: down", x.mended(0, 0, 1), 1);
        Due.due("rule 1 takes", x.takes(1, 1), 2);
        Due.due("rule 2 takes", x.takes(2, 1), 1);
        Due.due("rule 3 takes", x.takes(3, 1), 3);
        Due.due("fewest", x.bestRule(0, 1), 2);
    }

    /** Two of three poles fell in the year before, the third falls in this one. */
    private static PolesInALake twoFallen() {
        PolesInALake x = Due.lake("N2R09R11R22");
        x.house(0, 0, 30);
        x.pole(0, 1, 5, false);
        x.pole(0, 1, 5, false);
        x.pole(0, 2, 5, false);
        x.year();
        return x;
    }

    private static void bestOfAllHouses() {
        Doc.says("Terms", "(all HOUSES are mended so);");
        Due.due("rules 1 and 2 take one each", oneFallen(false).bestRule(0, 1), 1);
        PolesInALake x = oneFallen(true);
        Due.due("by rule 1 the other house takes two", x.takes(1, 1), 3);
        Due.due("by rule 2 it takes none", x.takes(2, 1), 1);
        Due.due("by rule 3", x.takes(3, 1), 4);
        Due.due("so rule 2 takes fewest", x.bestRule(0, 1), 2);
        Due.due("the other house needs none", x.bestRule(1, 1), 0);
    }

    private static PolesInALake oneFallen(boolean withOther) {
        PolesInALake x = Due.lake("N3R09R11R22");
        x.house(0, 0, 30);
        x.pole(0, 1, 5, false);
        x.pole(0, 2, 5, false);
        x.pole(1, 1, 5, false);
        x.pole(1, 1, 5, false);
        x.pole(1, 0, 15, false);
        if (withOther) {
            x.house(1, 1, 1);
        }
        Due.due("three fall", x.year(), 3);
        Due.due("wood 2 sank from 5 feet to 7", x.told(1, 7), 13);
        return x;
    }

    private static void buildYears() {
        Doc.says("Terms", "THE BUILD for a CELL, a weight, n YEARS (1 to 60):");
        Edge.bounds("n", 1, 60, OUTSIDE, n -> new PolesInALake().build(0, 1, n));
        Edge.bounds("weight", 1, 999, OUTSIDE, weight -> new PolesInALake().build(0, weight, 1));
        PolesInALake x = Due.lake("N2D010D109C9M1");
        Due.due("clay at once", x.build(1, 9, 1), 1002);
        Due.due("nine feet of mud", x.build(10, 9, 1), 7009);
        Due.due("else", x.build(0, 9, 1), 6012);
    }

    private static void buildAlone() {
        Doc.says("Terms", "one POLE alone (of some WOOD, DEPTH, with a collar or not) under a HOUSE of that CELL alone of that weight, in a LAKE with nothing else,");
        PolesInALake x = RefusalsTest.full();
        PolesInALake y = Due.lake("N3I3R07");
        for (int weight = 1; weight <= 60; weight++) {
            Due.due("where all is full, " + weight, x.build(11, weight, 3), y.build(11, weight, 3));
        }
        x = new PolesInALake();
        x.house(0, 11, 999);
        Due.years(x, 50);
        Due.due("in the year 50, under a house that is down", x.build(0, 1, 4), 1002);
        x = new PolesInALake();
        x.pole(0, 0, 15, true);
        Due.due("a pole there bears nothing", x.build(0, 50, 1), 18031);
        Due.due("a pole there bears nothing", x.build(0, 51, 1), NONE);
    }

    private static void buildNotDown() {
        Doc.says("Terms", "that is not DOWN behind n YEARS");
        for (int lasts = 1; lasts <= 9; lasts++) {
            PolesInALake x = Due.lake("N2R0" + lasts + "R11R21");
            for (int n = 1; n <= 10; n++) {
                Due.due("lasts " + lasts + ", " + n + " years", x.build(0, 1, n), n < lasts ? 1002 : NONE);
            }
        }
        Due.due("60 years", Due.lake("N2R09R19R29").build(0, 1, 60), NONE);
        // ice lifts a foot a year, until it is out
        PolesInALake x = Due.lake("N2D009C0B0I9R09");
        for (int n = 1; n <= 7; n++) {
            Due.due("ice, " + n + " years", x.build(0, 1, n), 1002 * (n + 1));
        }
        // nine feet hold 9, and are not lifted
        Due.due("ice, 8 years", x.build(0, 1, 8), 9018);
        // a collar holds on, but not when the pole is out
        x = Due.lake("N2M0C0B8I9R09");
        for (int n = 1; n <= 8; n++) {
            Due.due("ice and a collar, " + n + " years", x.build(0, 8, n), 1000 * (n + 4) + 2 * (n + 1) + 1);
        }
        Due.due("ice and a collar, 9", x.build(0, 9, 1), NONE);
    }

    private static void buildNotSinking() {
        Doc.says("Terms", "and does not SINK:");
        PolesInALake x = new PolesInALake();
        Due.due("15 feet hold 45", x.build(0, 45, 1), 15030);
        Due.due("46: with a collar", x.build(0, 46, 1), 17029);
        Due.due("50: 15 feet and a collar", x.build(0, 50, 1), 18031);
        Due.due("51: it would stay at 15 feet, but it sinks", x.build(0, 51, 1), NONE);
        Due.due("999", x.build(0, 999, 1), NONE);
        x = Due.lake("N2M9C9B9");
        Due.due("the most", x.build(0, 144, 1), 18031);
        Due.due("and one more", x.build(0, 145, 1), NONE);
        x = Due.lake("N2M0C0B0");
        Due.due("nothing holds 1", x.build(0, 1, 1), NONE);
        // it must hold behind the ice of each year
        x = Due.lake("N2D009C0B0I9");
        Due.due("4 behind one year", x.build(0, 4, 1), 5010);
        Due.due("4 behind four years", x.build(0, 4, 4), 8016);
        Due.due("5 behind four years", x.build(0, 5, 4), 9018);
    }

    private static void buildWork() {
        Doc.says("Terms", "of least work (DEPTH, 3 for a collar, 2 for WOOD 1, 4 for WOOD 2); of like ones the least WOOD, the least DEPTH, no collar.");
        PolesInALake x = Due.lake("N2D009C0B2");
        Due.due("a collar that holds 2 is worth less than 3 feet", x.build(0, 9, 1), 9018);
        Due.due("but more than nothing", x.build(0, 10, 1), 11017);
        x = Due.lake("N2D009C0B3");
        for (int weight = 4; weight <= 9; weight++) {
            Due.due("a collar for 3 feet: the less deep one", x.build(0, weight, 1), 1000 * weight + 2 * (weight - 3) + 1);
        }
        Due.due("no pole is less than a foot deep", x.build(0, 3, 1), 3006);
        x = Due.lake("N2D009C0B4");
        Due.due("a collar that holds 4: less work", x.build(0, 5, 1), 4003);
        Due.due("wood 0 of like ones", Due.lake("N2R09R19R29").build(0, 1, 8), 1002);
        Due.due("wood 1 of like ones", Due.lake("N2R01R19R29").build(0, 1, 8), 3102);
        Due.due("wood 2", Due.lake("N2R01R11R29").build(0, 1, 8), 5202);
        Due.due("wood 2, as 0 and 1 rot", Due.lake("N2R08R18R29").build(0, 1, 8), 5202);
        Due.due("none", Due.lake("N2R08R18R28").build(0, 1, 8), NONE);
    }

    private static void buildTold() {
        Doc.says("Terms", "Told as 1000 times the work, 100 times the WOOD, 2 times the DEPTH, and 1 with a collar; NONE.");
        Due.due("the least", new PolesInALake().build(0, 1, 1), 1002);
        Due.due("15 feet, a collar, wood 2", Due.lake("N2R01R11").build(0, 50, 1), 22231);
        Due.due("15 feet, a collar, wood 1", Due.lake("N2R01").build(0, 50, 1), 20131);
        Due.due("15 feet, wood 2", Due.lake("N2R01R11").build(0, 45, 1), 19230);
        Due.due("a foot, a collar, wood 1", Due.lake("N2R01").build(0, 6, 1), 6103);
        Due.due("none", Due.lake("N2R01R11R21").build(0, 1, 1), NONE);
    }

    private static void down() {
        Doc.says("13", "The YEAR at the end of which a HOUSE is DOWN, of the next n;");
        PolesInALake x = standing("N2R09");
        Due.years(x, 3);
        Due.due("the year 8 is the sixth from here", x.down(0, 6), 8);
        Due.due("five years", x.down(0, 5), NONE);
        x.pole(0, 0, 15, false);
        Due.due("a pole more", x.down(0, 9), 11);
        Due.due("eight years", x.down(0, 8), NONE);
        x = new PolesInALake();
        Due.years(x, 40);
        x.house(0, 0, 1);
        Due.due("without a pole: this year", x.down(0, 1), 40);
        Due.due("it is not down yet", x.home(0, 3), 0);
        x = Due.lake("N2I9");
        x.house(0, 0, 1);
        x.pole(0, 0, 2, false);
        Due.due("lifted out", x.down(0, 60), 1);
        Doc.says("13", "NONE (also if it is DOWN now).");
        x = standing("N2R01");
        Due.due("it falls", x.year(), 1);
        Due.due("down now", x.down(0, 60), NONE);
        x.pole(0, 0, 15, false);
        Due.due("with a pole that falls again", x.down(0, 60), NONE);
        Due.due("a house that stands for one year", standing("N2R02").down(0, 1), NONE);
    }

    private static void downRefused() {
        Doc.says("13", "UNKNOWN; OUTSIDE: n.");
        Edge.bounds("n", 1, 60, OUTSIDE, n -> standing("N2").down(0, n));
        Edge.bounds("house", 0, 0, UNKNOWN, house -> standing("N2").down(house, 1));
        Edge.bounds("six houses", 0, 5, UNKNOWN, house -> RefusalsTest.full().down(house, 1));
        Due.due("no house, ahead of n", new PolesInALake().down(0, 0), UNKNOWN);
        Due.due("house ahead of n", standing("N2").down(1, 61), UNKNOWN);
        Due.due("house ahead of n", standing("N2").down(-1, 0), UNKNOWN);
    }

    private static void off() {
        Doc.says("14", "The first YEAR of the next n behind which it is OFF by more than x (0 to 15); NONE.");
        PolesInALake x = PolesEdges.apart();
        Due.due("by more than 0", x.off(0, 1, 0), 0);
        Due.due("by more than 15", x.off(0, 8, 15), 7);
        Due.due("by more than 15 in seven years", x.off(0, 7, 15), NONE);
        Due.years(x, 2);
        Due.due("off by 4 now", x.home(0, 2), 4);
        Due.due("behind the next one it is more than 3", x.off(0, 1, 3), 2);
        Due.due("by more than 5", x.off(0, 1, 5), 2);
        Due.due("by more than 6, not in one", x.off(0, 1, 6), NONE);
        Due.due("by more than 6, in two", x.off(0, 2, 6), 3);
        Due.due("by more than 15", x.off(0, 60, 15), 7);
        Due.due("one pole is never off", standing("N2").off(0, 60, 0), NONE);
        x = new PolesInALake();
        x.house(0, 0, 999);
        Due.due("without poles", x.off(0, 60, 0), NONE);
    }

    private static void offRefused() {
        Doc.says("14", "UNKNOWN; OUTSIDE.");
        Edge.bounds("x", 0, 15, OUTSIDE, by -> PolesEdges.apart().off(0, 60, by));
        Edge.bounds("n", 1, 60, OUTSIDE, n -> PolesEdges.apart().off(0, n, 15));
        Edge.bounds("house", 0, 0, UNKNOWN, house -> PolesEdges.apart().off(house, 60, 0));
        Due.due("house ahead of n", PolesEdges.apart().off(1, 0, 0), UNKNOWN);
        Due.due("house ahead of x", PolesEdges.apart().off(1, 1, 16), UNKNOWN);
        Due.due("no house", new PolesInALake().off(0, 61, -1), UNKNOWN);
    }

    private static void takes() {
        Doc.says("15", "TAKES. OUTSIDE: rule (0 to 3), n.");
        Edge.bounds("rule", 0, 3, OUTSIDE, rule -> sixtyYears().takes(rule, 60));
        Edge.bounds("n", 1, 60, OUTSIDE, n -> sixtyYears().takes(1, n));
        PolesInALake x = new PolesInALake();
        for (int rule = 0; rule <= 3; rule++) {
            Due.due("without houses", x.takes(rule, 60), 0);
        }
        Due.due("both are not as told", x.takes(4, 61), OUTSIDE);
    }

    private static void mended() {
        Doc.says("16", "The YEAR at the end of which a HOUSE is DOWN by a RULE; NONE.");
        PolesInALake x = sixtyYears();
        Due.due("rule 0", x.mended(0, 0, 60), 4);
        Due.due("rule 1", x.mended(1, 0, 60), 59);
        Due.due("rule 2", x.mended(2, 0, 60), 4);
        Due.due("rule 3", x.mended(3, 0, 60), 59);
        Due.due("rule 0 in four years", x.mended(0, 0, 4), NONE);
        Due.due("rule 1 in 59 years", x.mended(1, 0, 59), NONE);
        x.year();
        Due.due("a year later the year is the same", x.mended(1, 0, 59), 59);
        x = standing("N2R01");
        x.year();
        for (int rule = 0; rule <= 3; rule++) {
            Due.due("down now", x.mended(rule, 0, 60), NONE);
        }
    }

    private static void mendedRefused() {
        Doc.says("16", "UNKNOWN; OUTSIDE.");
        Edge.bounds("rule", 0, 3, OUTSIDE, rule -> sixtyYears().mended(rule, 0, 60));
        Edge.bounds("house", 0, 0, UNKNOWN, house -> sixtyYears().mended(1, house, 60));
        Edge.bounds("n", 1, 60, OUTSIDE, n -> sixtyYears().mended(1, 0, n));
        Due.due("house ahead of rule", sixtyYears().mended(4, 1, 1), UNKNOWN);
        Due.due("house ahead of rule and n", sixtyYears().mended(-1, -1, 0), UNKNOWN);
        Due.due("no house", new PolesInALake().mended(0, 0, 61), UNKNOWN);
    }

    private static void bestRule() {
        Doc.says("17", "BEST RULE; NONE.");
        PolesInALake x = standing("N2R02");
        Due.due("it stands", x.bestRule(0, 1), 0);
        Due.due("its one pole falls, and then it is down", x.bestRule(0, 2), NONE);
        Due.due("two poles, of which two fell", twoFallen().bestRule(0, 1), 2);
        x = standing("N2R01");
        x.year();
        Due.due("down now", x.bestRule(0, 1), NONE);
        x.pole(0, 1, 15, false);
        Due.due("down now, though a pole stands", x.bestRule(0, 1), NONE);
        x = new PolesInALake();
        x.house(0, 0, 1);
        Due.due("without poles", x.bestRule(0, 1), NONE);
    }

    private static void bestRuleRefused() {
        Doc.says("17", "UNKNOWN; OUTSIDE.");
        Edge.bounds("house", 0, 0, UNKNOWN, house -> sixtyYears().bestRule(house, 60));
        Edge.bounds("six houses", 0, 5, UNKNOWN, house -> RefusalsTest.full().bestRule(house, 1));
        Edge.bounds("n", 1, 60, OUTSIDE, n -> sixtyYears().bestRule(0, n));
        Due.due("house ahead of n", sixtyYears().bestRule(1, 61), UNKNOWN);
        Due.due("no house", new PolesInALake().bestRule(0, 0), UNKNOWN);
    }

    private static void build() {
        Doc.says("18", "THE BUILD; NONE.");
        PolesInALake x = Due.lake("N6D550");
        Due.due("the last cell", x.build(55, 4, 4), 1002);
        Due.due("the first cell", x.build(0, 3, 4), 3006);
        Due.due("four years of five", x.build(0, 50, 4), 18031);
        Due.due("five years of five", x.build(0, 1, 5), NONE);
    }

    private static void buildRefused() {
        Doc.says("18", "UNKNOWN: cell; OUTSIDE: weight (1 to 999), n.");
        Edge.bounds("cell", 0, 1, UNKNOWN, cell -> new PolesInALake().build(cell, 1, 1));
        Edge.bounds("weight", 1, 999, OUTSIDE, weight -> new PolesInALake().build(11, weight, 1));
        Edge.bounds("n", 1, 60, OUTSIDE, n -> new PolesInALake().build(11, 1, n));
        PolesInALake x = new PolesInALake();
        Due.due("cell ahead of weight", x.build(20, 0, 1), UNKNOWN);
        Due.due("cell ahead of n", x.build(12, 1, 61), UNKNOWN);
        Due.due("cell ahead of both", x.build(-1, 1000, 0), UNKNOWN);
        Due.due("both are not as told", x.build(0, 1000, 0), OUTSIDE);
    }
}
