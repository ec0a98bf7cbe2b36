/**
 * What is refused changes nothing, and what only answers changes nothing either: on a new object,
 * in a village some years old, and where all that can be full is full.
 */
public final class RefusalsTest {
    private static final int UNKNOWN = PolesInALake.UNKNOWN;
    private static final int OUTSIDE = PolesInALake.OUTSIDE;
    private static final int STATE = PolesInALake.STATE;
    private static final int FULL = PolesInALake.FULL;
    private static final int[] WILD = {
        Integer.MIN_VALUE, -61, -1, 0, 1, 2, 3, 9, 10, 15, 16, 21, 22, 24, 60, 61, 1000, Integer.MAX_VALUE
    };

    public static void main(String[] args) {
        numbersRefused("a new object", PolesInALake::new);
        numbersRefused("a village", RefusalsTest::village);
        numbersRefused("all full", RefusalsTest::full);
        stateOfNew();
        stateOfVillage();
        fullOfFull();
        questions("a new object", PolesInALake::new);
        questions("a village", RefusalsTest::village);
        questions("all full", RefusalsTest::full);
        Due.end();
    }

    /** Four houses, one of them down; five poles, some fallen; the text is another lake. */
    static PolesInALake village() {
        PolesInALake x = Due.lake("N3D111M2I4R03R19");
        x.house(0, 1, 50);
        x.house(20, 21, 70);
        x.house(2, 2, 9);
        x.pole(0, 0, 3, false);
        x.pole(1, 1, 2, true);
        x.pole(20, 2, 12, false);
        x.pole(11, 0, 1, false);
        x.keep(0);
        Due.years(x, 3);
        x.pole(21, 1, 7, true);
        x.house(22, 22, 9);
        x.rise(3);
        x.rise(9);
        for (int k = 0; k < 12; k++) {
            x.ring(5 * k, (k + 3) % 10);
        }
        x.find(0, 0, 10);
        x.find(1, 0, 10);
        x.find(2, 0, 11);
        x.find(11, 0, 30);
        x.wipe();
        x.write(6, 0x4E344D364338L);
        return x;
    }

    /** 24 poles, 6 houses, 16 finds, 8 rises, both slots, and 64 bytes that are a lake. */
    static PolesInALake full() {
        PolesInALake x = Due.lake("N3I3R07");
        for (int k = 0; k < 6; k++) {
            x.house(k / 3 * 10 + k % 3, k / 3 * 10 + k % 3, 20 + k);
        }
        for (int k = 0; k < 12; k++) {
            x.pole(k % 6 / 3 * 10 + k % 3, k % 3, k + 1, k % 4 == 0);
        }
        x.keep(0);
        x.year();
        for (int k = 12; k < 24; k++) {
            x.pole(k % 6 / 3 * 10 + k % 3, k % 3, k - 10, false);
        }
        x.year();
        x.keep(1);
        for (int k = 0; k < 16; k++) {
            x.find(k % 3, 0, 20 + k % 4);
        }
        for (int k = 0; k < 8; k++) {
            x.rise(2 * k);
        }
        x.ring(0, 9);
        x.ring(59, 9);
        x.wipe();
        writeLong(x, fullText());
        return x;
    }

    /** 64 bytes that are a lake of 17 parts. */
    static String fullText() {
        StringBuilder text = new StringBuilder("N4");
        for (int k = 0; k < 15; k++) {
            text.append('D').append(k / 4).append(k % 4).append(k % 10);
        }
        return text.append("M7").toString();
    }

    static void writeLong(PolesInALake x, String text) {
        for (int at = 0; at < text.length(); at += 8) {
            long v = 0;
            int end = Math.min(text.length(), at + 8);
            for (int k = at; k < end; k++) {
                v = 256 * v + text.charAt(k);
            }
            Due.due("write", x.write(end - at, v), end);
        }
    }

    private static boolean isIn(int number, int least, int most) {
        return number >= least && number <= most;
    }

    private static int cellIn(PolesInALake x, int cell) {
        return x.clay(cell) >= 0 ? 1 : 0;
    }

    /** Calls that could change something, with a number that is not as told. */
    private static void numbersRefused(String name, Twins.Maker maker) {
        Twins twins = new Twins(name, maker);
        for (int a : WILD) {
            boolean cell = cellIn(maker.make(), a) == 1;
            for (int b : WILD) {
                boolean other = cellIn(maker.make(), b) == 1;
                for (int c : WILD) {
                    boolean known = cell && isIn(b, 0, 2);
                    if (!known || !isIn(c, 1, 15)) {
                        twins.refuses("pole " + a + " " + b + " " + c, known ? OUTSIDE : UNKNOWN,
                            x -> x.pole(a, b, c, true));
                    }
                    if (!cell || !other || !isIn(c, 1, 999)) {
                        twins.refuses("house " + a + " " + b + " " + c, cell && other ? OUTSIDE : UNKNOWN,
                            x -> x.house(a, b, c));
                    }
                    if (!known || !isIn(c, 0, 59)) {
                        twins.refuses("find " + a + " " + b + " " + c, UNKNOWN, x -> x.find(a, b, c));
                    }
                }
                if (!isIn(a, 0, 59) || !isIn(b, 0, 9)) {
                    twins.refuses("ring " + a + " " + b, isIn(a, 0, 59) ? OUTSIDE : UNKNOWN,
                        x -> x.ring(a, b));
                }
                if (!isIn(a, 1, 8)) {
                    twins.refuses("write " + a + " " + b, OUTSIDE, x -> x.write(a, b));
                }
            }
            if (!isIn(a, 0, 20)) {
                twins.refuses("rise " + a, OUTSIDE, x -> x.rise(a));
            }
            if (!isIn(a, 0, 1)) {
                twins.refuses("keep " + a, UNKNOWN, x -> x.keep(a));
                twins.refuses("again " + a, UNKNOWN, x -> x.again(a));
            }
        }
        twins.areAlike();
    }

    private static void stateOfNew() {
        Twins twins = new Twins("a new object", PolesInALake::new);
        twins.refuses("lake", STATE, x -> x.lake());
        twins.refuses("unfind", STATE, x -> x.unfind());
        twins.refuses("again 0", STATE, x -> x.again(0));
        twins.refuses("again 1", STATE, x -> x.again(1));
        twins.refuses("house 1 0", STATE, x -> x.house(1, 0, 1));
        twins.refuses("house 10 1", STATE, x -> x.house(10, 1, 999));
        twins.areAlike();
    }

    private static void stateOfVillage() {
        Twins twins = new Twins("a village", RefusalsTest::village);
        twins.refuses("again 1", STATE, x -> x.again(1));
        twins.refuses("house on a house", STATE, x -> x.house(0, 0, 5));
        twins.refuses("house on a part of a house", STATE, x -> x.house(1, 11, 5));
        twins.refuses("house on one that is down", STATE, x -> x.house(2, 12, 5));
        twins.refuses("house over all", STATE, x -> x.house(0, 22, 5));
        twins.refuses("house to the left", STATE, x -> x.house(12, 11, 5));
        twins.areAlike();
        Twins faulty = new Twins("a village, a fault in the text", () -> {
            PolesInALake x = village();
            x.write(1, 'X');
            return x;
        });
        faulty.refuses("lake", STATE, x -> x.lake());
        faulty.areAlike();
    }

    private static void fullOfFull() {
        Twins twins = new Twins("all full", RefusalsTest::full);
        for (int n = 1; n <= 8; n++) {
            int bytes = n;
            twins.refuses("write " + n, FULL, x -> x.write(bytes, 0x4D314D314D314D31L));
        }
        twins.refuses("pole", FULL, x -> x.pole(22, 0, 1, false));
        twins.refuses("house", FULL, x -> x.house(20, 22, 1));
        twins.refuses("house on a house", STATE, x -> x.house(0, 0, 1));
        twins.refuses("find", FULL, x -> x.find(22, 0, 1));
        twins.refuses("rise", FULL, x -> x.rise(20));
        twins.areAlike();
    }

    /** What only answers, with numbers as told and others. */
    private static void questions(String name, Twins.Maker maker) {
        Twins twins = new Twins(name, maker);
        int[] numbers = {-1, 0, 1, 2, 3, 5, 9, 11, 60};
        for (int a : numbers) {
            for (int b : numbers) {
                for (int c : new int[] {0, 1, 9, 60}) {
                    twins.asks(x -> x.off(a, b, c));
                    twins.asks(x -> x.mended(a, b, c));
                    twins.asks(x -> x.build(a, b, c));
                    twins.asks(x -> x.match(a, b, c));
                }
                twins.asks(x -> x.told(a, b));
                twins.asks(x -> x.home(a, b));
                twins.asks(x -> x.down(a, b));
                twins.asks(x -> x.takes(a, b));
                twins.asks(x -> x.bestRule(a, b));
                twins.asks(x -> x.wet(a, b, a > b));
                twins.asks(x -> x.dry(a, b));
                twins.asks(x -> x.dated(a, b));
                twins.asks(x -> x.sure(a, b));
            }
            twins.asks(x -> x.about(a));
            twins.asks(x -> x.clay(a));
            twins.asks(x -> x.group(a));
            twins.asks(x -> x.later(a));
            twins.asks(x -> x.grew(a));
            twins.asks(x -> x.count(a));
        }
        twins.asks(x -> x.fault());
        twins.asks(x -> x.houses());
        twins.asks(x -> x.dig());
        twins.areAlike();
    }
}
