import java.math.BigInteger;
import java.util.function.IntBinaryOperator;

/** The edges that part 4 of the terms and promises 19 to 26 name: water, rings. */
final class WaterRingsEdges {
    private static final int UNKNOWN = PolesInALake.UNKNOWN;
    private static final int OUTSIDE = PolesInALake.OUTSIDE;
    private static final int STATE = PolesInALake.STATE;
    private static final int FULL = PolesInALake.FULL;
    private static final int NONE = PolesInALake.NONE;
    private static final int[] NINES = {0, 9, 99, 999, 9999, 99999, 999999, 9999999, 99999999, 999999999};

    private WaterRingsEdges() {
    }

    static void all() {
        rises();
        wetReached();
        dryEnough();
        longRow();
        sample();
        matched();
        datedLeast();
        sureBy();
        rise();
        riseRefused();
        calm();
        wet();
        wetRefused();
        wetState();
        dry();
        dryRefused();
        ring();
        ringRefused();
        match();
        matchUnknown();
        matchAskedFirst();
        dated();
        sure();
    }

    private static PolesInALake risen(int... feet) {
        PolesInALake x = new PolesInALake();
        for (int by : feet) {
            x.rise(by);
        }
        return x;
    }

    /** The long row is 0 but for these widths, from a ring year on. */
    private static PolesInALake row(int from, int... widths) {
        PolesInALake x = new PolesInALake();
        for (int k = 0; k < widths.length; k++) {
            x.ring(from + k, widths[k]);
        }
        return x;
    }

    private static void chance(String of, PolesInALake x, int feet, int n, long above, long below) {
        Due.due(of + ": above", x.wet(feet, n, true), above);
        Due.due(of + ": below", x.wet(feet, n, false), below);
    }

    private static void rises() {
        Doc.says("Terms", "WATER rises in a year by one of told feet (0 to 20; 8 at most, each as likely).");
        Edge.bounds("feet", 0, 20, OUTSIDE, feet -> new PolesInALake().rise(feet));
        for (int k = 1; k <= 8; k++) {
            int[] feet = new int[k];
            feet[k - 1] = 20;
            chance("one of " + k, risen(feet), 20, 1, 1, k);
        }
        PolesInALake x = risen(1, 2, 3, 4, 5, 6, 7, 8);
        Due.due("the ninth", x.rise(20), FULL);
        chance("it is not one of them", x, 20, 1, 0, 1);
        chance("the same feet told twice are twice as likely", risen(3, 3, 0), 3, 1, 2, 3);
    }

    private static void wetReached() {
        Doc.says("Terms", "WET: the chance that a floor so many feet up is reached or passed in n years (1 to 6) at least once.");
        for (int feet = 0; feet <= 20; feet++) {
            PolesInALake x = risen(feet);
            chance("a floor at it, " + feet, x, feet, 1, 1, 1);
            chance("a floor a foot above it, " + feet, x, feet + 1, 1, 0, 1);
            chance("a floor at the water", x, 0, 1, 1, 1);
        }
        PolesInALake x = risen(5, 0);
        long all = 1;
        for (int n = 1; n <= 6; n++) {
            all *= 2;
            chance("half, " + n, x, 5, n, all - 1, all);
            chance("never, " + n, x, 6, n, 0, 1);
            chance("always, " + n, x, 0, n, 1, 1);
        }
        Edge.bounds("n", 1, 6, OUTSIDE, n -> risen(5, 0).wet(5, n, true));
        x = risen(0, 1, 2, 3, 4, 5, 6, 7);
        chance("one of eight in six years", x, 7, 6, 262144 - 117649, 262144);
        chance("seven of eight in six years", x, 1, 6, 262143, 262144);
    }

    private static void dryEnough() {
        Doc.says("Terms", "DRY ENOUGH: the least feet (0 to 21) with which WET is no more than x in the hundred.");
        for (int feet = 0; feet <= 20; feet++) {
            PolesInALake x = risen(feet);
            Due.due("always by " + feet + ": 99", x.dry(1, 99), feet + 1);
            Due.due("always by " + feet + ": 0", x.dry(6, 0), feet + 1);
            Due.due("always by " + feet + ": 100", x.dry(6, 100), 0);
        }
        PolesInALake x = risen(20, 0);
        Due.due("one half is no more than 50", x.dry(1, 50), 1);
        Due.due("but more than 49", x.dry(1, 49), 21);
        Due.due("three of four: 75", x.dry(2, 75), 1);
        Due.due("three of four: 74", x.dry(2, 74), 21);
        x = risen(20, 0, 0);
        Due.due("a third is more than 33", x.dry(1, 33), 21);
        Due.due("and less than 34", x.dry(1, 34), 1);
        x = risen(20, 19, 18, 17, 16, 15, 14, 13);
        for (int k = 0; k < 8; k++) {
            // k of eight are 12.5 k in the hundred
            Due.due(k + " of eight", x.dry(1, (25 * k + 1) / 2), 21 - k);
            if (k > 0) {
                Due.due("less than " + k + " of eight", x.dry(1, (25 * k + 1) / 2 - 1), 22 - k);
            }
        }
    }

    private static void longRow() {
        Doc.says("Terms", "THE LONG ROW has RINGS 0 to 9 for RING YEARS 0 to 59 (all 0 at first).");
        PolesInALake x = new PolesInALake();
        for (int year = 0; year < 60; year++) {
            Due.due("at first " + year, x.ring(year, year % 10), 0);
        }
        for (int year = 0; year < 60; year++) {
            Due.due("then " + year, x.ring(year, 9 - year % 10), year % 10);
        }
        for (int year = 0; year < 60; year++) {
            Due.due("and then " + year, x.match(1, 9 - year % 10, year), 0);
        }
        Edge.bounds("ring year", 0, 59, UNKNOWN, year -> new PolesInALake().ring(year, 9));
        Edge.bounds("width", 0, 9, OUTSIDE, width -> new PolesInALake().ring(59, width));
    }

    private static void sample() {
        Doc.says("Terms", "A SAMPLE are n RINGS (1 to 9) as figures, the first one the oldest.");
        PolesInALake x = row(51, 1, 2, 3, 4, 5, 6, 7, 8, 9);
        int rings = 0;
        int tens = 1;
        for (int n = 1; n <= 9; n++) {
            rings += tens * (10 - n);
            tens = n < 9 ? 10 * tens : tens;
            Due.due("the last " + n, x.match(n, rings, 59), 0);
        }
        Due.due("the first one is the oldest", x.match(2, 89, 59), 0);
        Due.due("the other way round", x.match(2, 98, 59), 2);
        Due.due("zeros ahead are rings too", x.match(9, 1, 51), 0);
        Due.due("zeros ahead are rings too", x.match(9, 9, 59), 36);
        Edge.bounds("n", 1, 9, OUTSIDE, n -> new PolesInALake().match(n, 0, 59));
    }

    private static void matched() {
        Doc.says("Terms", "MATCHED with its last RING in a RING YEAR: all by which RINGS are unlike, together.");
        for (int n = 1; n <= 9; n++) {
            PolesInALake x = new PolesInALake();
            Due.due("the most", x.match(n, NINES[n], 59), 9 * n);
            Due.due("the most, at first", x.match(n, NINES[n], n - 1), 9 * n);
            Due.due("none", x.match(n, 0, 59), 0);
        }
        PolesInALake x = row(0, 9, 0, 9, 0, 9, 0, 9, 0, 9);
        Due.due("more and less both count", x.match(9, 90909090, 8), 81);
        Due.due("a sample of fives", x.match(9, 555555555, 8), 4 * 5 + 5 * 4);
        Due.due("all alike", x.match(9, 909090909, 8), 0);
        Due.due("a year later", x.match(9, 909090909, 9), 81);
    }

    private static void datedLeast() {
        Doc.says("Terms", "DATED: the RING YEAR (n less 1 to 59) by which that is least; of like ones the least.");
        for (int n = 1; n <= 9; n++) {
            Due.due("all alike: n less 1", new PolesInALake().dated(n, 0), n - 1);
            Due.due("all as unlike: n less 1", new PolesInALake().dated(n, NINES[n]), n - 1);
            Due.due("the last one", row(59, 9).dated(n, 9), 59);
            Due.due("the first one", row(n - 1, 9).dated(n, 9), n - 1);
            Due.due("of two like ones", row(58, 9, 9).dated(1, 9), 58);
        }
        // in the ring year 1 it is 9 0, unlike by 18; else by 9
        Due.due("all but the first are alike", row(0, 9).dated(2, 9), 2);
        Due.due("a ring ahead as the oldest", row(0, 9).dated(2, 90), 1);
        Due.due("nearly", row(20, 8).dated(1, 9), 20);
        Due.due("nearer", row(20, 7, 0, 8).dated(1, 9), 22);
    }

    private static void sureBy() {
        Doc.says("Terms", "SURE by: the least of all others less that (NONE: there is no other).");
        for (int n = 1; n <= 9; n++) {
            Due.due("all alike", new PolesInALake().sure(n, 0), 0);
            // there are 60 less n and 1 more ring years for it, 52 and more
            Due.isTrue("there is always another", new PolesInALake().sure(n, NINES[n]) != NONE);
            Due.due("the last one, all others unlike by 9", row(59, 9).sure(n, 9), 9);
            Due.due("the first one", row(n - 1, 9).sure(n, 9), 9);
        }
        Due.due("the next one is ahead", row(20, 8, 9).sure(1, 9), 1);
        Due.due("the next one is behind", row(20, 9, 7).sure(1, 9), 2);
        Due.due("two like ones", row(20, 9, 0, 9).sure(1, 9), 0);
        Due.due("less that of the best", row(20, 7, 5).sure(1, 9), 2);
        PolesInALake x = new PolesInALake();
        for (int year = 0; year < 60; year++) {
            x.ring(year, 9);
        }
        x.ring(30, 0);
        Due.due("0 in nines", x.dated(1, 0), 30);
        Due.due("by 9", x.sure(1, 0), 9);
    }

    private static void rise() {
        Doc.says("19", "WATER may rise by so many feet: how many such there are.");
        PolesInALake x = new PolesInALake();
        for (int k = 1; k <= 8; k++) {
            Due.due("rise", x.rise(k % 2 == 0 ? 20 : 0), k);
        }
        chance("half of them", x, 1, 1, 1, 2);
    }

    private static void riseRefused() {
        Doc.says("19", "OUTSIDE; FULL: 8.");
        Edge.bounds("feet", 0, 20, OUTSIDE, feet -> risen(3, 4).rise(feet));
        PolesInALake x = risen(0, 0, 0, 0, 0, 0, 0);
        Due.due("the eighth", x.rise(0), 8);
        Due.due("the ninth", x.rise(0), FULL);
        Due.due("OUTSIDE ahead of FULL", x.rise(21), OUTSIDE);
        Due.due("OUTSIDE ahead of FULL", x.rise(-1), OUTSIDE);
        Due.due("eight", x.calm(), 8);
    }

    private static void calm() {
        Doc.says("20", "None are told: how many there were.");
        for (int k = 0; k <= 8; k++) {
            PolesInALake x = risen(new int[k]);
            Due.due("calm of " + k, x.calm(), k);
            Due.due("none are told", x.wet(0, 1, true), STATE);
            Due.due("none are told", x.dry(1, 0), STATE);
            Due.due("calm of none", x.calm(), 0);
            Due.due("there is room again", x.rise(7), 1);
            chance("what was told is forgotten", x, 7, 1, 1, 1);
        }
    }

    private static void wet() {
        Doc.says("21", "WET.");
        PolesInALake x = risen(20, 20, 10, 0, 0, 0);
        chance("at 21", x, 21, 6, 0, 1);
        chance("at 20", x, 20, 1, 1, 3);
        chance("at 20 in six years", x, 20, 6, 729 - 64, 729);
        chance("at 11", x, 11, 1, 1, 3);
        chance("at 10", x, 10, 1, 1, 2);
        chance("at 1", x, 1, 2, 3, 4);
        chance("at 0", x, 0, 6, 1, 1);
        Doc.says("Terms", "FRACTIONS are told above (upper = true), below (1 and more), in least terms;");
        // 2 of 8, 4 of 8, 6 of 8, 8 of 8, 0 of 8
        x = risen(1, 1, 2, 2, 3, 3, 4, 4);
        chance("2 of 8", x, 4, 1, 1, 4);
        chance("4 of 8", x, 3, 1, 1, 2);
        chance("6 of 8", x, 2, 1, 3, 4);
        chance("8 of 8", x, 1, 1, 1, 1);
        chance("0 of 8", x, 5, 1, 0, 1);
        chance("in two years 28 of 64", x, 4, 2, 7, 16);
        chance("in six years", x, 4, 6, 4096 - 729, 4096);
        for (int rises = 1; rises <= 8; rises++) {
            int[] feet = new int[rises];
            for (int k = 0; k < rises; k++) {
                feet[k] = 20 * k / rises;
            }
            leastTerms(risen(feet));
        }
    }

    private static void leastTerms(PolesInALake x) {
        for (int k = 0; k < 22 * 6; k++) {
            BigInteger above = BigInteger.valueOf(x.wet(k / 6, 1 + k % 6, true));
            BigInteger below = BigInteger.valueOf(x.wet(k / 6, 1 + k % 6, false));
            Due.isTrue("below is 1 or more", below.signum() > 0);
            Due.isTrue("above is between 0 and below", above.signum() >= 0 && above.compareTo(below) <= 0);
            Due.due("in least terms", above.gcd(below).longValue(), 1);
        }
    }

    private static void wetRefused() {
        Doc.says("21", "OUTSIDE: feet (0 to 21), n;");
        Edge.bounds("feet, above", 0, 21, OUTSIDE, feet -> risen(20).wet(feet, 1, true));
        Edge.bounds("feet, below", 0, 21, OUTSIDE, feet -> risen(20).wet(feet, 1, false));
        Edge.bounds("n, above", 1, 6, OUTSIDE, n -> risen(20).wet(21, n, true));
        Edge.bounds("n, below", 1, 6, OUTSIDE, n -> risen(20).wet(21, n, false));
        Doc.says("Terms", "refusals of them are told likewise.");
        for (boolean upper : new boolean[] {true, false}) {
            Due.due("feet 22", risen(20).wet(22, 1, upper), OUTSIDE);
            Due.due("feet -1", risen(20).wet(-1, 1, upper), OUTSIDE);
            Due.due("n 0", risen(20).wet(0, 0, upper), OUTSIDE);
            Due.due("n 7", risen(20).wet(0, 7, upper), OUTSIDE);
            Due.due("none are told", new PolesInALake().wet(0, 1, upper), STATE);
        }
    }

    private static void wetState() {
        Doc.says("21", "STATE: none are told.");
        for (boolean upper : new boolean[] {true, false}) {
            PolesInALake x = new PolesInALake();
            Due.due("a new object", x.wet(0, 1, upper), STATE);
            Due.due("feet 21", x.wet(21, 6, upper), STATE);
            Due.due("feet ahead of it", x.wet(22, 1, upper), OUTSIDE);
            Due.due("n ahead of it", x.wet(0, 7, upper), OUTSIDE);
            x.rise(21);
            Due.due("a refused rise tells none", x.wet(0, 1, upper), STATE);
            x.rise(0);
            Due.due("one is told", x.wet(0, 1, upper), 1);
            x.calm();
            Due.due("none again", x.wet(0, 1, upper), STATE);
        }
    }

    private static void dry() {
        Doc.says("22", "DRY ENOUGH.");
        Due.due("the least", risen(20, 20, 20).dry(6, 100), 0);
        Due.due("the most", risen(0, 20, 3).dry(6, 0), 21);
        Due.due("a floor at 1 is above 0", risen(0, 0).dry(6, 0), 1);
    }

    private static void dryRefused() {
        Doc.says("22", "OUTSIDE: n, x (0 to 100); STATE.");
        Edge.bounds("n", 1, 6, OUTSIDE, n -> risen(20).dry(n, 0));
        Edge.bounds("x", 0, 100, OUTSIDE, x -> risen(20).dry(6, x));
        PolesInALake x = new PolesInALake();
        Due.due("none are told", x.dry(1, 0), STATE);
        Due.due("none are told", x.dry(6, 100), STATE);
        Due.due("n ahead of it", x.dry(0, 0), OUTSIDE);
        Due.due("n ahead of it", x.dry(7, 0), OUTSIDE);
        Due.due("x ahead of it", x.dry(1, -1), OUTSIDE);
        Due.due("x ahead of it", x.dry(1, 101), OUTSIDE);
    }

    private static void ring() {
        Doc.says("23", "A RING of THE LONG ROW: what it was.");
        for (int year : new int[] {0, 1, 30, 58, 59}) {
            PolesInALake x = new PolesInALake();
            Due.due("at first", x.ring(year, 9), 0);
            Due.due("then", x.ring(year, 0), 9);
            Due.due("then", x.ring(year, 0), 0);
            x.ring(year, 9);
            for (int other = 0; other < 60; other++) {
                Due.due("ring " + other, x.match(1, 0, other), other == year ? 9 : 0);
            }
        }
    }

    private static void ringRefused() {
        Doc.says("23", "UNKNOWN: ring year; OUTSIDE: width.");
        Edge.bounds("ring year", 0, 59, UNKNOWN, year -> new PolesInALake().ring(year, 0));
        Edge.bounds("width", 0, 9, OUTSIDE, width -> new PolesInALake().ring(0, width));
        PolesInALake x = row(0, 4);
        Due.due("ring year ahead of width", x.ring(60, 10), UNKNOWN);
        Due.due("ring year ahead of width", x.ring(-1, -1), UNKNOWN);
        Due.due("width", x.ring(0, 10), OUTSIDE);
        Due.due("the ring is as it was", x.ring(0, 0), 4);
    }

    private static void match() {
        Doc.says("24", "MATCHED.");
        PolesInALake x = row(0, 1, 2, 3);
        Due.due("the first ring alone", x.match(1, 1, 0), 0);
        Due.due("the first three", x.match(3, 123, 2), 0);
        Due.due("the last of the row", x.match(9, 0, 59), 0);
    }

    private static void matchUnknown() {
        Doc.says("24", "UNKNOWN: ring year (n less 1 and more);");
        for (int n = 1; n <= 9; n++) {
            int rings = n;
            Edge.bounds("ring year of " + n, n - 1, 59, UNKNOWN,
                year -> new PolesInALake().match(rings, 0, year));
        }
    }

    private static void matchAskedFirst() {
        Doc.says("24", "OUTSIDE: n, rings (0 or more, not more than n figures; asked first).");
        Edge.bounds("n", 1, 9, OUTSIDE, n -> new PolesInALake().match(n, 0, 30));
        PolesInALake x = new PolesInALake();
        for (int n = 1; n <= 9; n++) {
            Due.due("n figures", x.match(n, NINES[n], 30), 9 * n);
            Due.due("0", x.match(n, 0, 30), 0);
            Due.due("one figure more", x.match(n, NINES[n] + 1, 30), OUTSIDE);
            Due.due("less than 0", x.match(n, -1, 30), OUTSIDE);
            Due.due("the most", x.match(n, Integer.MAX_VALUE, 30), OUTSIDE);
            Due.due("the least", x.match(n, Integer.MIN_VALUE, 30), OUTSIDE);
            Due.due("rings ahead of ring year", x.match(n, -1, 60), OUTSIDE);
            Due.due("rings ahead of ring year", x.match(n, NINES[n] + 1, -1), OUTSIDE);
        }
        Due.due("n ahead of ring year", x.match(0, 0, 60), OUTSIDE);
        Due.due("n ahead of ring year", x.match(10, 0, -1), OUTSIDE);
        Due.due("then the ring year", x.match(9, 999999999, 7), UNKNOWN);
    }

    private static void samplesRefused(String call, IntBinaryOperator asked) {
        Edge.bounds(call + ": n", 1, 9, OUTSIDE, n -> asked.applyAsInt(n, 0));
        for (int n = 1; n <= 9; n++) {
            Due.isTrue(call + ": n figures", asked.applyAsInt(n, NINES[n]) >= 0);
            Due.due(call + ": one figure more", asked.applyAsInt(n, NINES[n] + 1), OUTSIDE);
            Due.due(call + ": less than 0", asked.applyAsInt(n, -1), OUTSIDE);
            Due.due(call + ": the most", asked.applyAsInt(n, Integer.MAX_VALUE), OUTSIDE);
            Due.due(call + ": the least", asked.applyAsInt(n, Integer.MIN_VALUE), OUTSIDE);
        }
        Due.due(call + ": no ring", asked.applyAsInt(0, 0), OUTSIDE);
    }

    private static void dated() {
        Doc.says("25", "DATED. OUTSIDE.");
        samplesRefused("dated", (n, rings) -> new PolesInALake().dated(n, rings));
        Due.due("the first that can be", new PolesInALake().dated(9, 0), 8);
        Due.due("the last that can be", row(51, 1, 2, 3, 4, 5, 6, 7, 8, 9).dated(9, 123456789), 59);
    }

    private static void sure() {
        Doc.says("26", "SURE by. OUTSIDE.");
        samplesRefused("sure", (n, rings) -> new PolesInALake().sure(n, rings));
        Due.due("not at all", new PolesInALake().sure(9, 999999999), 0);
        // a year earlier or later it is unlike by 8 and more
        PolesInALake x = row(51, 1, 2, 3, 4, 5, 6, 7, 8, 9);
        Due.due("a year earlier", x.match(9, 123456789, 58), 9);
        Due.due("sure by", x.sure(9, 123456789), 9);
    }
}
