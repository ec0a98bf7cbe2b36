import java.util.Random;

/**
 * Promises 1 to 36, and their refusals: long runs of calls on the class and on the plain model.
 * At times all counts are told again. A run ends ahead of the 512 calls that an object is good for.
 */
public final class ModelTest {
    private static final int RUNS = 400;
    private static final int MOST_CALLS = 512;
    /** More than what one step of a run can call. */
    private static final int CALLS_OF_A_STEP = 120;
    private static final String LETTERS = "DDDMCBIRRR";

    private final Random random;
    private final PolesInALake x = new PolesInALake();
    private final PlainModel m = new PlainModel();
    private int size = 2;
    private int made = 0;

    private ModelTest(long seed) {
        random = new Random(seed);
    }

    public static void main(String[] args) {
        for (int run = 0; run < RUNS; run++) {
            new ModelTest(run).calls(run);
        }
        Due.end();
    }

    private void calls(int run) {
        int kind = run % 5;
        if (kind != 0) {
            lakeOfParts();
        }
        // some steps call nothing, so they are counted too
        for (int k = 0; k < 600 && made + CALLS_OF_A_STEP <= MOST_CALLS; k++) {
            call(kindOfCall(kind));
            int what = random.nextInt(12);
            if (what < 6) {
                due("count(" + what + ")", x.count(what), m.count(what));
            }
        }
    }

    /** Runs of each kind keep mostly to one part of the face, so that they come far in it. */
    private int kindOfCall(int kind) {
        int any = random.nextInt(36);
        if (random.nextInt(4) == 0) {
            return any;
        }
        switch (kind) {
            case 0: return random.nextInt(6);
            case 1: case 2: return 6 + random.nextInt(11);
            case 3: return 17 + random.nextInt(8);
            default: return 25 + random.nextInt(7);
        }
    }

    private void due(String call, long got, long want) {
        made++;
        if (got != want) {
            Due.due(call, got, want);
            Due.end();
        }
    }

    /** Mostly a number of the range, at times one just beyond it, seldom a wild one. */
    private int number(int least, int most) {
        int chance = random.nextInt(60);
        if (chance == 0) {
            return random.nextBoolean() ? least - 1 : most + 1;
        }
        if (chance == 1) {
            return random.nextInt();
        }
        return least + random.nextInt(most - least + 1);
    }

    private int cell() {
        return number(0, 40) == 0 ? number(0, 100)
            : 10 * random.nextInt(size) + random.nextInt(size);
    }

    private void lakeOfParts() {
        StringBuilder text = new StringBuilder("N").append(2 + random.nextInt(5));
        String letters = "MCBI";
        for (int k = 0; k < 4; k++) {
            if (random.nextBoolean()) {
                text.append(letters.charAt(k)).append(random.nextInt(10));
            }
        }
        for (int k = 0; k < 3; k++) {
            if (random.nextBoolean()) {
                text.append('R').append(k).append(1 + random.nextInt(9));
            }
        }
        int n = text.charAt(1) - '0';
        for (int cell = 0; cell < n * n && text.length() <= 60; cell++) {
            if (random.nextInt(3) == 0) {
                text.append('D').append(cell / n).append(cell % n).append(random.nextInt(10));
            }
        }
        due("wipe", x.wipe(), m.wipe());
        say(text.toString());
        due("lake " + text, x.lake(), m.lake());
        size = m.about(0);
    }

    private void say(String text) {
        for (int k = 0; k < text.length(); k++) {
            due("write " + text, x.write(1, text.charAt(k)), m.write(1, text.charAt(k)));
        }
    }

    private void somePart() {
        String signs = LETTERS.charAt(random.nextInt(LETTERS.length())) + "";
        int figures = signs.equals("D") ? 3 : signs.equals("R") ? 2 : 1;
        for (int k = 0; k < figures; k++) {
            signs += (char) ('0' + (k == figures - 1 ? random.nextInt(10) : random.nextInt(3)));
        }
        int cut = random.nextInt(8) == 0 ? random.nextInt(signs.length()) : signs.length();
        say(signs.substring(0, cut));
    }

    private void call(int kind) {
        if (kind < 6) {
            callLake(kind);
        } else if (kind < 11) {
            callPoles(kind);
        } else if (kind < 17) {
            callWhatIf(kind);
        } else if (kind < 25) {
            callWaterRings(kind);
        } else {
            callFindsSlots(kind);
        }
    }

    private void callLake(int kind) {
        int what = number(0, 7);
        int cell = cell();
        int n = number(1, 8);
        long v = random.nextLong();
        switch (kind) {
            case 0:
                if (random.nextInt(3) == 0) {
                    due("write " + n + " " + v, x.write(n, v), m.write(n, v));
                } else {
                    somePart();
                }
                break;
            case 1:
                if (random.nextInt(3) == 0) {
                    due("wipe", x.wipe(), m.wipe());
                    say("N" + (2 + random.nextInt(3)));
                }
                break;
            case 2: due("fault", x.fault(), m.fault()); break;
            case 3:
                if (random.nextInt(6) == 0) {
                    due("lake", x.lake(), m.lake());
                    size = m.about(0);
                }
                break;
            case 4: due("about " + what, x.about(what), m.about(what)); break;
            default: due("clay " + cell, x.clay(cell), m.clay(cell)); break;
        }
    }

    private void callPoles(int kind) {
        int cell = cell();
        int wood = number(0, 2);
        int depth = number(1, 15);
        boolean collar = random.nextInt(3) == 0;
        int pole = number(0, Math.max(0, m.count(1) - 1));
        int house = number(0, Math.max(0, m.count(3) - 1));
        int what = number(0, 7);
        int other = random.nextInt(3) == 0 ? cell : Math.min(cell() + cell % 10, 10 * size - 1);
        int weight = random.nextInt(4) == 0 ? number(1, 999) : number(1, 120);
        switch (kind) {
            case 6:
                due("pole " + cell + " " + wood + " " + depth + " " + collar,
                    x.pole(cell, wood, depth, collar), m.pole(cell, wood, depth, collar));
                break;
            case 7: due("told " + pole + " " + what, x.told(pole, what), m.told(pole, what)); break;
            case 8:
                due("house " + cell + " " + other + " " + weight,
                    x.house(cell, other, weight), m.house(cell, other, weight));
                break;
            case 9: due("home " + house + " " + what, x.home(house, what), m.home(house, what)); break;
            default:
                if (random.nextInt(2) == 0) {
                    due("year", x.year(), m.year());
                    allPolesAndHouses();
                }
                break;
        }
    }

    private void allPolesAndHouses() {
        for (int pole = 0; pole < m.count(1); pole++) {
            for (int what : new int[] {2, 6, 7}) {
                due("told " + pole + " " + what, x.told(pole, what), m.told(pole, what));
            }
        }
        for (int house = 0; house < m.count(3); house++) {
            for (int what = 0; what < 4; what++) {
                due("home " + house + " " + what, x.home(house, what), m.home(house, what));
            }
        }
    }

    private void callWhatIf(int kind) {
        int house = number(0, Math.max(0, m.count(3) - 1));
        int n = random.nextInt(6) == 0 ? number(1, 60) : number(1, 12);
        int rule = number(0, 3);
        int by = random.nextInt(4) == 0 ? number(0, 15) : number(0, 4);
        int cell = cell();
        int weight = random.nextInt(4) == 0 ? number(1, 999) : number(1, 60);
        switch (kind) {
            case 11: due("down " + house + " " + n, x.down(house, n), m.down(house, n)); break;
            case 12:
                due("off " + house + " " + n + " " + by, x.off(house, n, by), m.off(house, n, by));
                break;
            case 13: due("takes " + rule + " " + n, x.takes(rule, n), m.takes(rule, n)); break;
            case 14:
                due("mended " + rule + " " + house + " " + n,
                    x.mended(rule, house, n), m.mended(rule, house, n));
                break;
            case 15: due("bestRule " + house + " " + n, x.bestRule(house, n), m.bestRule(house, n)); break;
            default:
                due("build " + cell + " " + weight + " " + n,
                    x.build(cell, weight, n), m.build(cell, weight, n));
                break;
        }
    }

    private void callWaterRings(int kind) {
        int feet = number(0, 20);
        int floor = number(0, 21);
        int n = number(1, 6);
        int hundred = number(0, 100);
        int ringYear = number(0, 59);
        int width = number(0, 9);
        int figures = number(1, 9);
        int most = (int) Math.pow(10, Math.max(1, Math.min(9, figures))) - 1;
        int rings = number(0, most);
        switch (kind) {
            case 17: due("rise " + feet, x.rise(feet), m.rise(feet)); break;
            case 18:
                if (random.nextInt(6) == 0) {
                    due("calm", x.calm(), m.calm());
                }
                break;
            case 19:
                due("wet above " + floor + " " + n, x.wet(floor, n, true), m.wet(floor, n, true));
                due("wet below " + floor + " " + n, x.wet(floor, n, false), m.wet(floor, n, false));
                break;
            case 20: due("dry " + n + " " + hundred, x.dry(n, hundred), m.dry(n, hundred)); break;
            case 21: due("ring " + ringYear, x.ring(ringYear, width), m.ring(ringYear, width)); break;
            case 22:
                due("match " + figures + " " + rings + " " + ringYear,
                    x.match(figures, rings, ringYear), m.match(figures, rings, ringYear));
                break;
            case 23:
                due("dated " + figures + " " + rings, x.dated(figures, rings), m.dated(figures, rings));
                break;
            default:
                due("sure " + figures + " " + rings, x.sure(figures, rings), m.sure(figures, rings));
                break;
        }
    }

    private void callFindsSlots(int kind) {
        int cell = cell();
        int wood = number(0, 2);
        int ringYear = random.nextInt(8) == 0 ? number(0, 59) : number(20, 26);
        int find = number(0, Math.max(0, m.count(5) - 1));
        int slot = number(0, 1);
        int what = number(0, 5);
        switch (kind) {
            case 25:
                due("find " + cell + " " + wood + " " + ringYear,
                    x.find(cell, wood, ringYear), m.find(cell, wood, ringYear));
                break;
            case 26:
                if (random.nextInt(2) == 0) {
                    due("unfind", x.unfind(), m.unfind());
                }
                break;
            case 27: due("group " + find, x.group(find), m.group(find)); break;
            case 28: due("houses", x.houses(), m.houses()); break;
            case 29: due("later " + find, x.later(find), m.later(find)); break;
            case 30: due("grew " + ringYear, x.grew(ringYear), m.grew(ringYear)); break;
            case 31: due("dig", x.dig(), m.dig()); break;
            case 32: case 33: due("keep " + slot, x.keep(slot), m.keep(slot)); break;
            case 34: due("again " + slot, x.again(slot), m.again(slot)); break;
            default: due("count " + what, x.count(what), m.count(what)); break;
        }
    }
}
