/** What is refused changes nothing, and questions change nothing either. */
public final class RefusalsTest {
    private static final int[] WILD = {
        Integer.MIN_VALUE, -1000, -61, -10, -9, -1, 0, 1, 2, 3, 4, 5, 6, 7, 8, 9, 10, 15, 16, 20, 21,
        22, 24, 59, 60, 61, 99, 100, 999, 1000, 1000000000, Integer.MAX_VALUE
    };

    public static void main(String[] args) {
        PolesInALake x = village();
        String before = all(x);
        for (int a : WILD) {
            for (int b : WILD) {
                for (int c : WILD) {
                    ask(x, a, b, c);
                    refuse(x, a, b, c);
                }
            }
            same(x, before, a);
        }
        full();
        Due.end();
    }

    private static PolesInALake village() {
        PolesInALake x = Due.lake("N3D111M2I4R03R19");
        x.house(0, 1, 50);
        x.house(20, 21, 70);
        x.house(2, 2, 9);
        x.pole(0, 0, 3, false);
        x.pole(1, 1, 2, true);
        x.pole(20, 2, 12, false);
        x.pole(11, 0, 1, false);
        x.keep(0);
        Due.years(x, 3);
        x.pole(21, 1, 7, true);
        x.rise(3);
        x.rise(9);
        for (int k = 0; k < 60; k++) {
            x.ring(k, k * k % 10);
        }
        x.find(0, 0, 10);
        x.find(1, 0, 10);
        x.find(2, 0, 11);
        x.find(11, 0, 30);
        x.write(3, 0x4D3158L);
        return x;
    }

    /** All that can be told of an object without changing it. */
    private static String all(PolesInALake x) {
        StringBuilder s = new StringBuilder();
        s.append(x.fault()).append(' ').append(x.houses()).append(' ').append(x.dig());
        for (int k = 0; k < 64; k++) {
            s.append('|').append(x.about(k)).append(' ').append(x.clay(k)).append(' ').append(x.count(k));
            s.append(' ').append(x.group(k)).append(' ').append(x.later(k)).append(' ').append(x.grew(k));
            s.append(' ').append(x.match(1, 0, k)).append(' ').append(x.wet(k, 5, true));
            for (int what = 0; what < 8; what++) {
                s.append(' ').append(x.told(k, what)).append(' ').append(x.home(k, what));
            }
        }
        for (int rule = 0; rule < 4; rule++) {
            s.append('|').append(x.takes(rule, 30)).append(' ').append(x.mended(rule, 1, 30));
        }
        return s.toString();
    }

    private static void same(PolesInALake x, String before, int a) {
        Due.due("all is as before, behind " + a, all(x).equals(before) ? 1 : 0, 1);
    }

    private static void ask(PolesInALake x, int a, int b, int c) {
        x.down(a, b);
        x.off(a, b, c);
        x.takes(a, b);
        x.mended(a, b, c);
        x.bestRule(a, b);
        x.build(a, b, c);
        x.wet(a, b, c > 0);
        x.dry(a, b);
        x.match(a, b, c);
        x.dated(a, b);
        x.sure(a, b);
    }

    private static void refuse(PolesInALake x, int a, int b, int c) {
        boolean cell = x.clay(a) >= 0;
        if (!cell || b < 0 || b > 2 || c < 1 || c > 15) {
            refused("pole", x.pole(a, b, c, true));
        }
        if (!cell || x.clay(b) < 0 || c < 1 || c > 999 || b < a) {
            refused("house", x.house(a, b, c));
        }
        if (!cell || b < 0 || b > 2 || c < 0 || c > 59) {
            refused("find", x.find(a, b, c));
        }
        if (a < 0 || a > 59 || b < 0 || b > 9) {
            refused("ring", x.ring(a, b));
        }
        if (a < 0 || a > 20) {
            refused("rise", x.rise(a));
        }
        if (a < 0 || a > 1) {
            refused("keep", x.keep(a));
        }
        if (a != 0) {
            refused("again", x.again(a));
        }
        if (a < 1 || a > 8) {
            refused("write", x.write(a, b));
        }
        refused("lake", x.lake());
    }

    private static void refused(String call, int got) {
        Due.due(call + " is refused", got >= -4 && got <= -1 ? 1 : 0, 1);
    }

    private static void full() {
        PolesInALake x = Due.lake("N3");
        for (int k = 0; k < 6; k++) {
            x.house(k / 3 * 10 + k % 3, k / 3 * 10 + k % 3, 9);
        }
        for (int k = 0; k < 24; k++) {
            x.pole(11, k % 3, 5, false);
        }
        for (int k = 0; k < 16; k++) {
            x.find(11, 0, k);
        }
        for (int k = 0; k < 8; k++) {
            x.rise(k);
        }
        x.write(8, 0);
        String before = all(x);
        Due.due("pole", x.pole(0, 0, 1, false), PolesInALake.FULL);
        Due.due("house", x.house(22, 22, 1), PolesInALake.FULL);
        Due.due("house on a house", x.house(12, 22, 1), PolesInALake.STATE);
        Due.due("find", x.find(0, 0, 1), PolesInALake.FULL);
        Due.due("rise", x.rise(1), PolesInALake.FULL);
        Due.due("lake", x.lake(), PolesInALake.STATE);
        Due.due("again", x.again(1), PolesInALake.STATE);
        same(x, before, 0);
    }
}
