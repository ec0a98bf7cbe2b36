import java.util.ArrayList;
import java.util.List;

/**
 * Two objects made by the same calls, of which one is then asked for what is refused, or for what
 * only answers: all that both tell from then on is alike. Each pair tells only a part of itself, for
 * an object is good for 512 calls; so a pair is made for each part.
 */
final class Twins {
    interface Maker {
        PolesInALake make();
    }

    interface Call {
        long on(PolesInALake x);
    }

    private static final int PARTS = 5;
    /** With these an object made by some 100 calls can still tell all of a full village. */
    private static final int MOST_ASKED = 100;

    private final String name;
    private final Maker maker;
    private final List<Call> asked = new ArrayList<>();

    Twins(String name, Maker maker) {
        this.name = name;
        this.maker = maker;
    }

    /** This call is due to be refused so, and is looked at together with others. */
    void refuses(String call, long want, Call refused) {
        Due.due(name + ": " + call, refused.on(maker.make()), want);
        asks(refused);
    }

    void asks(Call call) {
        asked.add(call);
        if (asked.size() >= MOST_ASKED) {
            areAlike();
        }
    }

    /** Makes all calls that were added on one of each pair, and looks whether it is as the other. */
    void areAlike() {
        for (int part = 0; part < PARTS; part++) {
            PolesInALake one = maker.make();
            PolesInALake other = maker.make();
            for (Call call : asked) {
                call.on(one);
            }
            Due.isTrue(name + ": nothing is changed, part " + part, tell(one, part).equals(tell(other, part)));
        }
        asked.clear();
    }

    private static String tell(PolesInALake x, int part) {
        StringBuilder s = new StringBuilder();
        switch (part) {
            case 0: return village(x);
            case 1: return s.append(x.again(0)).append('|').append(village(x)).toString();
            case 2: return s.append(x.again(1)).append('|').append(village(x)).toString();
            case 3: return waterRingsFinds(x);
            default: return s.append(x.lake()).append('|').append(village(x)).toString();
        }
    }

    private static String village(PolesInALake x) {
        StringBuilder s = new StringBuilder().append(x.fault());
        for (int what = 0; what < 6; what++) {
            s.append(' ').append(x.count(what));
        }
        for (int what = 0; what < 8; what++) {
            s.append(' ').append(x.about(what));
        }
        int n = x.about(0);
        for (int cell = 0; cell < n * n; cell++) {
            s.append(' ').append(x.clay(cell / n * 10 + cell % n));
        }
        int poles = x.count(1);
        for (int k = 0; k < 8 * poles; k++) {
            s.append(' ').append(x.told(k / 8, k % 8));
        }
        int houses = x.count(3);
        for (int k = 0; k < 5 * houses; k++) {
            s.append(' ').append(x.home(k / 5, k % 5));
        }
        s.append(' ').append(x.takes(1, 1)).append(' ').append(x.takes(3, 30)).append(' ').append(x.year());
        return s.toString();
    }

    private static String waterRingsFinds(PolesInALake x) {
        StringBuilder s = new StringBuilder();
        s.append(x.houses()).append(' ').append(x.dig()).append(' ').append(x.count(5));
        for (int k = 0; k < 60; k++) {
            s.append(' ').append(x.match(1, 0, k)).append(' ').append(x.grew(k));
        }
        for (int k = 0; k < 22; k++) {
            s.append(' ').append(x.wet(k, 1, true)).append(' ').append(x.wet(k, 1, false));
        }
        for (int k = 0; k < 16; k++) {
            s.append(' ').append(x.group(k)).append(' ').append(x.later(k));
        }
        for (int k = 0; k < 17; k++) {
            s.append(' ').append(x.unfind()).append(' ').append(x.dig());
        }
        return s.append(' ').append(x.calm()).toString();
    }
}
