/** Promises 19 to 26: water that rises by chances, rings matched with the long row. */
public final class WaterRingsTest {
    private static final int UNKNOWN = PolesInALake.UNKNOWN;
    private static final int OUTSIDE = PolesInALake.OUTSIDE;
    private static final int STATE = PolesInALake.STATE;
    private static final int FULL = PolesInALake.FULL;

    public static void main(String[] args) {
        rise();
        wet();
        dry();
        ring();
        match();
        dated();
        Due.end();
    }

    private static void rise() {
        PolesInALake x = new PolesInALake();
        Due.due("rise -1", x.rise(-1), OUTSIDE);
        Due.due("rise 21", x.rise(21), OUTSIDE);
        Due.due("calm of none", x.calm(), 0);
        for (int k = 1; k <= 8; k++) {
            Due.due("rise " + k, x.rise(k % 2 == 0 ? 0 : 20), k);
        }
        Due.due("full", x.rise(3), FULL);
        Due.due("OUTSIDE ahead of FULL", x.rise(21), OUTSIDE);
        Due.due("half of them", x.wet(1, 1, false), 2);
        Due.due("calm", x.calm(), 8);
        Due.due("calm again", x.calm(), 0);
        Due.due("none told", x.wet(1, 1, true), STATE);
        Due.due("rise anew", x.rise(5), 1);
        Due.due("only that", x.wet(6, 1, true), 0);
    }

    private static void wet() {
        PolesInALake x = new PolesInALake();
        Due.due("no water", x.wet(0, 1, false), STATE);
        Due.due("OUTSIDE ahead of STATE", x.wet(0, 7, false), OUTSIDE);
        x.rise(2);
        x.rise(4);
        x.rise(4);
        x.rise(20);
        x.rise(0);
        x.rise(0);
        chance(x, 0, 1, 1, 1);
        chance(x, 0, 6, 1, 1);
        chance(x, 1, 1, 2, 3);
        chance(x, 2, 1, 2, 3);
        chance(x, 3, 1, 1, 2);
        chance(x, 4, 1, 1, 2);
        chance(x, 5, 1, 1, 6);
        chance(x, 20, 1, 1, 6);
        chance(x, 21, 1, 0, 1);
        chance(x, 21, 6, 0, 1);
        chance(x, 2, 2, 8, 9);
        chance(x, 4, 3, 7, 8);
        chance(x, 20, 2, 11, 36);
        chance(x, 20, 6, 46656 - 15625, 46656);
        for (int feet : new int[] {-1, 22, Integer.MIN_VALUE, Integer.MAX_VALUE}) {
            Due.due("feet " + feet, x.wet(feet, 1, true), OUTSIDE);
            Due.due("feet " + feet, x.wet(feet, 1, false), OUTSIDE);
        }
        Due.due("n 0", x.wet(1, 0, true), OUTSIDE);
        Due.due("n 7", x.wet(1, 7, false), OUTSIDE);
        x.calm();
        for (int k = 0; k < 8; k++) {
            x.rise(k);
        }
        chance(x, 7, 6, 262144 - 117649, 262144);
    }

    private static void chance(PolesInALake x, int feet, int n, long above, long below) {
        Due.due("above: " + feet + " feet, " + n, x.wet(feet, n, true), above);
        Due.due("below: " + feet + " feet, " + n, x.wet(feet, n, false), below);
    }

    private static void dry() {
        PolesInALake x = new PolesInALake();
        Due.due("no water", x.dry(1, 0), STATE);
        Due.due("OUTSIDE ahead of STATE: n", x.dry(0, 0), OUTSIDE);
        Due.due("OUTSIDE ahead of STATE: x", x.dry(1, 101), OUTSIDE);
        x.rise(3);
        x.rise(20);
        Due.due("n 7", x.dry(7, 0), OUTSIDE);
        Due.due("x -1", x.dry(1, -1), OUTSIDE);
        Due.due("x 101", x.dry(1, 101), OUTSIDE);
        Due.due("all is dry enough", x.dry(6, 100), 0);
        Due.due("50 in the hundred", x.dry(1, 50), 4);
        Due.due("99 in the hundred", x.dry(1, 99), 4);
        Due.due("49 in the hundred", x.dry(1, 49), 21);
        Due.due("never", x.dry(6, 0), 21);
        Due.due("two years: 75", x.dry(2, 75), 4);
        Due.due("two years: 74", x.dry(2, 74), 21);
        Due.due("six years: 63 of 64", x.dry(6, 98), 21);
        Due.due("six years: 99", x.dry(6, 99), 4);
        x.calm();
        x.rise(0);
        Due.due("a floor at the water", x.dry(1, 99), 1);
        x.rise(7);
        x.rise(7);
        Due.due("two of three is more than 66", x.dry(1, 66), 8);
        Due.due("but not more than 67", x.dry(1, 67), 1);
    }

    private static void ring() {
        PolesInALake x = new PolesInALake();
        Due.due("year 60", x.ring(60, 0), UNKNOWN);
        Due.due("year -1 ahead of width", x.ring(-1, 10), UNKNOWN);
        Due.due("width 10", x.ring(0, 10), OUTSIDE);
        Due.due("width -1", x.ring(59, -1), OUTSIDE);
        Due.due("was 0", x.ring(0, 9), 0);
        Due.due("was 9", x.ring(0, 4), 9);
        Due.due("was 4", x.ring(0, 4), 4);
        Due.due("the last", x.ring(59, 7), 0);
        Due.due("it was 7", x.ring(59, 0), 7);
        Due.due("beside it none", x.ring(58, 0), 0);
    }

    private static void match() {
        PolesInALake x = new PolesInALake();
        for (int k = 0; k < 60; k++) {
            x.ring(k, k % 10);
        }
        Due.due("the first ring is the oldest", x.match(3, 345, 5), 0);
        Due.due("the other way round", x.match(3, 543, 5), 4);
        Due.due("a year later", x.match(3, 345, 6), 3);
        Due.due("zeros ahead", x.match(4, 12, 12), 9);
        Due.due("zeros ahead, 0 0 1 2 against 9 0 1 2", x.match(3, 12, 12), 0);
        Due.due("nine rings", x.match(9, 12345678, 8), 0);
        Due.due("nine rings, the last year", x.match(9, 123456789, 59), 0);
        Due.due("all nines", x.match(9, 999999999, 8), 45);
        Due.due("year 7 is too early", x.match(9, 12345678, 7), UNKNOWN);
        Due.due("year 60", x.match(1, 0, 60), UNKNOWN);
        Due.due("year -1", x.match(1, 0, -1), UNKNOWN);
        Due.due("n ahead of year", x.match(0, 0, 60), OUTSIDE);
        Due.due("n 10", x.match(10, 0, 20), OUTSIDE);
        Due.due("n least", x.match(Integer.MIN_VALUE, 0, 20), OUTSIDE);
        Due.due("rings ahead of year", x.match(2, 100, -1), OUTSIDE);
        Due.due("too many figures", x.match(9, 1000000000, 20), OUTSIDE);
        Due.due("too many figures", x.match(9, Integer.MAX_VALUE, 20), OUTSIDE);
        Due.due("one figure", x.match(1, 10, 20), OUTSIDE);
        Due.due("negative", x.match(9, -1, 20), OUTSIDE);
        Due.due("the most", x.match(1, 9, 0), 9);
        int most = 1;
        for (int n = 1; n <= 9; n++) {
            most *= 10;
            Due.due("n figures", x.match(n, most, 30), OUTSIDE);
            Due.due("n figures", x.dated(n, most), OUTSIDE);
            Due.due("n figures", x.sure(n, most), OUTSIDE);
            Due.due("n nines", x.dated(n, most - 1), 9);
        }
    }

    private static void dated() {
        PolesInALake x = new PolesInALake();
        Due.due("all alike: the least", x.dated(1, 0), 0);
        Due.due("of nine rings", x.dated(9, 0), 8);
        Due.due("not sure", x.sure(9, 0), 0);
        x.ring(30, 5);
        x.ring(31, 7);
        Due.due("5 7", x.dated(2, 57), 31);
        // in year 30 it is 0 5: 5 and 2; in year 32 7 0: 2 and 7; else 12
        Due.due("5 7: sure by", x.sure(2, 57), 7);
        // in year 32 it is 7 0; else 5 or more
        Due.due("5 0", x.dated(2, 50), 32);
        x.ring(58, 5);
        x.ring(59, 7);
        Due.due("twice: the first", x.dated(2, 57), 31);
        Due.due("twice: not sure", x.sure(2, 57), 0);
        x.ring(59, 8);
        Due.due("nearly twice", x.sure(2, 57), 1);
        Due.due("the last year", x.dated(2, 58), 59);
        Due.due("it is sure by", x.sure(2, 58), 1);
        Due.due("none is alike", x.dated(2, 59), 59);
        Due.due("1 against 2", x.sure(2, 59), 1);
        Due.due("dated: n 0", x.dated(0, 0), OUTSIDE);
        Due.due("dated: n 10", x.dated(10, 0), OUTSIDE);
        Due.due("dated: rings", x.dated(2, 100), OUTSIDE);
        Due.due("dated: -1", x.dated(2, -1), OUTSIDE);
        Due.due("sure: n 0", x.sure(0, 0), OUTSIDE);
        Due.due("sure: n 10", x.sure(10, 0), OUTSIDE);
        Due.due("sure: rings", x.sure(1, 10), OUTSIDE);
        Due.due("sure: -1", x.sure(1, -1), OUTSIDE);
    }
}
