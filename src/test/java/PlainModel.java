import java.math.BigInteger;
import java.util.ArrayList;
import java.util.Arrays;
import java.util.HashMap;
import java.util.HashSet;
import java.util.List;
import java.util.Map;
import java.util.Set;
import java.util.TreeSet;
import java.util.stream.Collectors;
import java.util.stream.IntStream;

/**
 * The document a second time, as plain as can be and without regard to speed, in another way than
 * the class: texts by trying all parts, villages as values that are never changed, groups by
 * closure, chances by going through all runs of years.
 */
final class PlainModel {
    private static final int UNKNOWN = -1, OUTSIDE = -2, STATE = -3, FULL = -4, NONE = -9;

    record Pole(int cell, int wood, int depth, int first, boolean collar, int put, Integer fell) {
        boolean stands() {
            return fell == null;
        }

        Pole deep(int feet) {
            return new Pole(cell, wood, feet, first, collar, put, fell);
        }

        Pole fallen(int year) {
            return new Pole(cell, wood, depth, first, collar, put, year);
        }
    }

    record House(Set<Integer> cells, int weight, boolean down) {
    }

    record Village(List<Pole> poles, List<House> houses, int year) {
        static final Village EMPTY = new Village(List.of(), List.of(), 0);

        Village with(Pole p) {
            List<Pole> all = new ArrayList<>(poles);
            all.add(p);
            return new Village(all, houses, year);
        }

        List<Pole> of(int house) {
            return poles.stream()
                .filter(p -> p.stands() && houses.get(house).cells.contains(p.cell))
                .collect(Collectors.toList());
        }

        int standing() {
            return (int) poles.stream().filter(Pole::stands).count();
        }
    }

    record Find(int cell, int ringYear) {
    }

    private String text = "";
    private Map<String, Integer> told = Map.of("N", 2);
    private Village village = Village.EMPTY;
    private final Village[] kept = new Village[2];
    private final List<Integer> water = new ArrayList<>();
    private final int[] row = new int[60];
    private final List<Find> finds = new ArrayList<>();

    // ---- the lake

    int write(int n, long v) {
        if (n < 1 || n > 8) {
            return OUTSIDE;
        }
        if (text.length() + n > 64) {
            return FULL;
        }
        for (int k = n - 1; k >= 0; k--) {
            text += (char) ((v >> 8 * k) & 255);
        }
        return text.length();
    }

    int wipe() {
        int was = text.length();
        text = "";
        return was;
    }

    /** All parts that may come behind those that were told, each as its name and its figure. */
    private static List<String> nextNames(Map<String, Integer> before) {
        List<String> names = new ArrayList<>();
        if (before.isEmpty()) {
            names.add("N");
            return names;
        }
        names.addAll(List.of("M", "C", "B", "I", "R0", "R1", "R2"));
        for (int r = 0; r < before.get("N"); r++) {
            for (int c = 0; c < before.get("N"); c++) {
                names.add("D" + r + c);
            }
        }
        names.removeAll(before.keySet());
        return names;
    }

    private static boolean isFigureOf(String name, int figure) {
        if (name.equals("N")) {
            return figure >= 2 && figure <= 6;
        }
        return name.startsWith("R") ? figure >= 1 && figure <= 9 : figure >= 0 && figure <= 9;
    }

    /** What a whole text tells; null if it is no lake. */
    private static Map<String, Integer> read(String s) {
        Map<String, Integer> parts = new HashMap<>();
        String rest = s;
        while (!rest.isEmpty()) {
            String taken = null;
            for (String name : nextNames(parts)) {
                if (rest.length() > name.length() && rest.startsWith(name)
                    && isFigureOf(name, rest.charAt(name.length()) - '0')) {
                    taken = name;
                }
            }
            if (taken == null) {
                return null;
            }
            parts.put(taken, rest.charAt(taken.length()) - '0');
            rest = rest.substring(taken.length() + 1);
        }
        return parts.isEmpty() ? null : parts;
    }

    /** Whether something could come behind a text, so that it were a lake. */
    private static boolean mayBecome(String s) {
        if (s.isEmpty() || read(s) != null) {
            return true;
        }
        // the last part is not whole: it has at most three bytes
        for (int cut = Math.max(0, s.length() - 3); cut < s.length(); cut++) {
            String ahead = s.substring(0, cut);
            Map<String, Integer> parts = ahead.isEmpty() ? Map.of() : read(ahead);
            String begun = s.substring(cut);
            if (parts != null && nextNames(parts).stream().anyMatch(name -> name.startsWith(begun))) {
                return true;
            }
        }
        return false;
    }

    int fault() {
        for (int at = 0; at < text.length(); at++) {
            if (!mayBecome(text.substring(0, at + 1))) {
                return at;
            }
        }
        return read(text) == null ? text.length() : NONE;
    }

    int lake() {
        Map<String, Integer> parts = read(text);
        if (parts == null) {
            return STATE;
        }
        told = parts;
        village = Village.EMPTY;
        Arrays.fill(kept, null);
        finds.clear();
        return parts.size();
    }

    private int tell(String name, int otherwise) {
        return told.getOrDefault(name, otherwise);
    }

    int about(int what) {
        switch (what) {
            case 0: return tell("N", 2);
            case 1: return tell("M", 1);
            case 2: return tell("C", 4);
            case 3: return tell("B", 5);
            case 4: return tell("I", 0);
            case 5: return tell("R0", 5);
            case 6: return tell("R1", 5);
            case 7: return tell("R2", 5);
            default: return OUTSIDE;
        }
    }

    private List<Integer> cells() {
        List<Integer> all = new ArrayList<>();
        for (int r = 0; r < about(0); r++) {
            for (int c = 0; c < about(0); c++) {
                all.add(10 * r + c);
            }
        }
        return all;
    }

    int clay(int cell) {
        if (!cells().contains(cell)) {
            return UNKNOWN;
        }
        return tell("D" + cell / 10 + cell % 10, 5);
    }

    // ---- poles, houses, years

    int pole(int cell, int wood, int depth, boolean collar) {
        if (!cells().contains(cell) || wood < 0 || wood > 2) {
            return UNKNOWN;
        }
        if (depth < 1 || depth > 15) {
            return OUTSIDE;
        }
        if (village.poles.size() == 24) {
            return FULL;
        }
        village = village.with(new Pole(cell, wood, depth, depth, collar, village.year, null));
        return village.poles.size() - 1;
    }

    private int holds(Pole p) {
        int sum = p.collar ? about(3) : 0;
        for (int foot = 1; foot <= p.depth; foot++) {
            sum += foot > clay(p.cell) ? about(2) : about(1);
        }
        return sum;
    }

    int told(int pole, int what) {
        if (pole < 0 || pole >= village.poles.size()) {
            return UNKNOWN;
        }
        if (what < 0 || what > 7) {
            return OUTSIDE;
        }
        Pole p = village.poles.get(pole);
        return new int[] {p.cell, p.wood, p.depth, p.first, p.collar ? 1 : 0, p.put,
            p.stands() ? 1 : 0, holds(p)}[what];
    }

    int house(int cell, int other, int weight) {
        if (!cells().contains(cell) || !cells().contains(other)) {
            return UNKNOWN;
        }
        if (weight < 1 || weight > 999) {
            return OUTSIDE;
        }
        Set<Integer> own = new TreeSet<>();
        for (int each : cells()) {
            if (each / 10 >= cell / 10 && each / 10 <= other / 10
                && each % 10 >= cell % 10 && each % 10 <= other % 10) {
                own.add(each);
            }
        }
        if (own.isEmpty()) {
            return STATE;
        }
        for (House h : village.houses) {
            Set<Integer> both = new HashSet<>(h.cells);
            both.retainAll(own);
            if (!both.isEmpty()) {
                return STATE;
            }
        }
        if (village.houses.size() == 6) {
            return FULL;
        }
        List<House> all = new ArrayList<>(village.houses);
        all.add(new House(own, weight, false));
        village = new Village(village.poles, all, village.year);
        return all.size() - 1;
    }

    private int share(Village v, int house) {
        int n = v.of(house).size();
        House h = v.houses.get(house);
        return n == 0 || h.down ? 0 : (int) Math.ceil(h.weight / (double) n);
    }

    private int off(Village v, int house) {
        int[] sunk = v.of(house).stream().mapToInt(p -> p.depth - p.first).toArray();
        return sunk.length == 0 ? 0
            : Arrays.stream(sunk).max().getAsInt() - Arrays.stream(sunk).min().getAsInt();
    }

    int home(int house, int what) {
        if (house < 0 || house >= village.houses.size()) {
            return UNKNOWN;
        }
        if (what < 0 || what > 4) {
            return OUTSIDE;
        }
        House h = village.houses.get(house);
        return new int[] {village.of(house).size(), share(village, house), off(village, house),
            h.down ? 1 : 0, h.weight}[what];
    }

    /** The village a year later; a list of one number, if it is given, is told how many sank. */
    private Village next(Village v, int[] sank) {
        Village iced = new Village(v.poles.stream().map(p -> {
            if (!p.stands() || holds(p) >= about(4)) {
                return p;
            }
            Pole up = p.deep(p.depth - 1);
            return up.depth == 0 ? up.fallen(v.year) : up;
        }).collect(Collectors.toList()), v.houses, v.year);
        List<Pole> sunk = new ArrayList<>();
        for (Pole p : iced.poles) {
            Pole q = p;
            for (int h = 0; h < iced.houses.size(); h++) {
                boolean bears = p.stands() && iced.houses.get(h).cells.contains(p.cell);
                if (bears && !iced.houses.get(h).down && share(iced, h) > holds(p)) {
                    int feet = (int) Math.ceil((share(iced, h) - holds(p)) / 5.0);
                    q = p.deep(Math.min(15, p.depth + feet));
                    sank[0]++;
                }
            }
            boolean rots = q.stands() && v.year - q.put + 1 == about(5 + q.wood);
            sunk.add(rots ? q.fallen(v.year) : q);
        }
        Village rotten = new Village(sunk, v.houses, v.year);
        List<House> left = new ArrayList<>();
        for (int h = 0; h < v.houses.size(); h++) {
            House was = v.houses.get(h);
            left.add(new House(was.cells, was.weight, was.down || rotten.of(h).isEmpty()));
        }
        return new Village(sunk, left, v.year + 1);
    }

    int year() {
        int before = village.standing();
        village = next(village, new int[1]);
        return before - village.standing();
    }

    // ---- what if

    private static boolean years(int n) {
        return n >= 1 && n <= 60;
    }

    private boolean noHouse(int house) {
        return house < 0 || house >= village.houses.size();
    }

    private Village mend(Village v, int rule) {
        Village w = v;
        for (int h = 0; h < v.houses.size(); h++) {
            if (v.houses.get(h).down) {
                continue;
            }
            if (rule == 1 || rule == 3) {
                for (Pole p : v.poles) {
                    if (p.fell != null && p.fell == v.year - 1
                        && v.houses.get(h).cells.contains(p.cell)) {
                        w = mendAt(w, p.cell);
                    }
                }
            }
            if (rule == 2 || rule == 3) {
                int share = share(w, h);
                if (w.of(h).stream().anyMatch(p -> share > holds(p))) {
                    w = mendAt(w, v.houses.get(h).cells.iterator().next());
                }
            }
        }
        return w;
    }

    private static Village mendAt(Village v, int cell) {
        return v.poles.size() == 24 ? v : v.with(new Pole(cell, 0, 9, 9, false, v.year, null));
    }

    /** The villages behind each of the next n years. */
    private List<Village> course(int rule, int n) {
        List<Village> all = new ArrayList<>();
        Village v = village;
        for (int k = 0; k < n; k++) {
            v = next(mend(v, rule), new int[1]);
            all.add(v);
        }
        return all;
    }

    int down(int house, int n) {
        return mended(0, house, n);
    }

    int off(int house, int n, int x) {
        if (noHouse(house)) {
            return UNKNOWN;
        }
        if (!years(n) || x < 0 || x > 15) {
            return OUTSIDE;
        }
        for (Village v : course(0, n)) {
            if (off(v, house) > x) {
                return v.year - 1;
            }
        }
        return NONE;
    }

    int takes(int rule, int n) {
        if (rule < 0 || rule > 3 || !years(n)) {
            return OUTSIDE;
        }
        return course(rule, n).get(n - 1).poles.size() - village.poles.size();
    }

    int mended(int rule, int house, int n) {
        if (noHouse(house)) {
            return UNKNOWN;
        }
        if (rule < 0 || rule > 3 || !years(n)) {
            return OUTSIDE;
        }
        if (village.houses.get(house).down) {
            return NONE;
        }
        for (Village v : course(rule, n)) {
            if (v.houses.get(house).down) {
                return v.year - 1;
            }
        }
        return NONE;
    }

    int bestRule(int house, int n) {
        if (noHouse(house)) {
            return UNKNOWN;
        }
        if (!years(n)) {
            return OUTSIDE;
        }
        TreeSet<Integer> good = new TreeSet<>();
        for (int rule = 0; rule <= 3; rule++) {
            if (!course(rule, n).get(n - 1).houses.get(house).down) {
                good.add(10 * takes(rule, n) + rule);
            }
        }
        return good.isEmpty() ? NONE : good.first() % 10;
    }

    int build(int cell, int weight, int n) {
        if (!cells().contains(cell)) {
            return UNKNOWN;
        }
        if (weight < 1 || weight > 999 || !years(n)) {
            return OUTSIDE;
        }
        // work, wood, depth, collar: the least number is the best build
        TreeSet<Integer> good = new TreeSet<>();
        for (int wood = 0; wood <= 2; wood++) {
            for (int depth = 1; depth <= 15; depth++) {
                for (int collar = 0; collar <= 1; collar++) {
                    if (lasts(new Pole(cell, wood, depth, depth, collar == 1, 0, null), weight, n)) {
                        int work = depth + 3 * collar + new int[] {0, 2, 4}[wood];
                        good.add(1000 * work + 100 * wood + 2 * depth + collar);
                    }
                }
            }
        }
        return good.isEmpty() ? NONE : good.first();
    }

    private boolean lasts(Pole p, int weight, int n) {
        Village v = new Village(List.of(p), List.of(new House(Set.of(p.cell), weight, false)), 0);
        int[] sank = new int[1];
        for (int k = 0; k < n && !v.houses.get(0).down; k++) {
            v = next(v, sank);
        }
        return sank[0] == 0 && !v.houses.get(0).down;
    }

    // ---- water, rings

    int rise(int feet) {
        if (feet < 0 || feet > 20) {
            return OUTSIDE;
        }
        if (water.size() == 8) {
            return FULL;
        }
        water.add(feet);
        return water.size();
    }

    int calm() {
        int were = water.size();
        water.clear();
        return were;
    }

    /** How many runs of n years reach a floor, each year being told by its number. */
    private long reached(int feet, int n) {
        if (n == 0) {
            return 0;
        }
        long sum = 0;
        long rest = Math.round(Math.pow(water.size(), n - 1));
        long later = reached(feet, n - 1);
        for (int w : water) {
            sum += w >= feet ? rest : later;
        }
        return sum;
    }

    long wet(int feet, int n, boolean upper) {
        if (feet < 0 || feet > 21 || n < 1 || n > 6) {
            return OUTSIDE;
        }
        if (water.isEmpty()) {
            return STATE;
        }
        BigInteger above = BigInteger.valueOf(reached(feet, n));
        BigInteger below = BigInteger.valueOf(water.size()).pow(n);
        BigInteger common = above.gcd(below);
        return (upper ? above : below).divide(common).longValue();
    }

    int dry(int n, int x) {
        if (n < 1 || n > 6 || x < 0 || x > 100) {
            return OUTSIDE;
        }
        if (water.isEmpty()) {
            return STATE;
        }
        return IntStream.rangeClosed(0, 21)
            .filter(feet -> 100 * wet(feet, n, true) <= x * wet(feet, n, false))
            .min().getAsInt();
    }

    int ring(int ringYear, int width) {
        if (ringYear < 0 || ringYear > 59) {
            return UNKNOWN;
        }
        if (width < 0 || width > 9) {
            return OUTSIDE;
        }
        int was = row[ringYear];
        row[ringYear] = width;
        return was;
    }

    int match(int n, int rings, int ringYear) {
        if (n < 1 || n > 9 || rings < 0 || String.valueOf(rings).length() > n) {
            return OUTSIDE;
        }
        if (ringYear < n - 1 || ringYear > 59) {
            return UNKNOWN;
        }
        String figures = "000000000" + rings;
        figures = figures.substring(figures.length() - n);
        int sum = 0;
        for (int k = 0; k < n; k++) {
            sum += Math.abs(figures.charAt(k) - '0' - row[ringYear - n + 1 + k]);
        }
        return sum;
    }

    private TreeSet<Integer> matches(int n, int rings) {
        TreeSet<Integer> all = new TreeSet<>();
        for (int y = n - 1; y < 60; y++) {
            all.add(100 * match(n, rings, y) + y);
        }
        return all;
    }

    int dated(int n, int rings) {
        if (match(n, rings, 59) == OUTSIDE) {
            return OUTSIDE;
        }
        return matches(n, rings).first() % 100;
    }

    int sure(int n, int rings) {
        if (match(n, rings, 59) == OUTSIDE) {
            return OUTSIDE;
        }
        TreeSet<Integer> all = matches(n, rings);
        int best = all.pollFirst() / 100;
        return all.isEmpty() ? NONE : all.first() / 100 - best;
    }

    // ---- finds

    int find(int cell, int wood, int ringYear) {
        if (!cells().contains(cell) || wood < 0 || wood > 2 || ringYear < 0 || ringYear > 59) {
            return UNKNOWN;
        }
        if (finds.size() == 16) {
            return FULL;
        }
        finds.add(new Find(cell, ringYear));
        return finds.size() - 1;
    }

    int unfind() {
        if (finds.isEmpty()) {
            return STATE;
        }
        finds.remove(finds.size() - 1);
        return finds.size();
    }

    private static boolean touch(int cell, int other) {
        int rows = Math.abs(cell / 10 - other / 10);
        int columns = Math.abs(cell % 10 - other % 10);
        return Math.max(rows, columns) <= 1;
    }

    private TreeSet<Integer> groupOf(int find) {
        TreeSet<Integer> group = new TreeSet<>(Set.of(find));
        for (int round = 0; round < 16; round++) {
            for (int f : List.copyOf(group)) {
                for (int g = 0; g < finds.size(); g++) {
                    Find one = finds.get(f);
                    Find other = finds.get(g);
                    if (touch(one.cell, other.cell) && Math.abs(one.ringYear - other.ringYear) < 2) {
                        group.add(g);
                    }
                }
            }
        }
        return group;
    }

    private boolean noFind(int find) {
        return find < 0 || find >= finds.size();
    }

    int group(int find) {
        return noFind(find) ? UNKNOWN : groupOf(find).first();
    }

    private Set<TreeSet<Integer>> groupsOfThree() {
        Set<TreeSet<Integer>> all = new HashSet<>();
        for (int f = 0; f < finds.size(); f++) {
            if (groupOf(f).size() >= 3) {
                all.add(groupOf(f));
            }
        }
        return all;
    }

    private int began(Set<Integer> group) {
        return group.stream().mapToInt(f -> finds.get(f).ringYear).min().getAsInt();
    }

    int houses() {
        return groupsOfThree().size();
    }

    int later(int find) {
        if (noFind(find)) {
            return UNKNOWN;
        }
        if (groupOf(find).size() >= 3) {
            return NONE;
        }
        Find own = finds.get(find);
        TreeSet<Integer> beside = new TreeSet<>();
        for (TreeSet<Integer> group : groupsOfThree()) {
            boolean touches = group.stream().anyMatch(f -> touch(finds.get(f).cell, own.cell));
            if (touches && began(group) < own.ringYear) {
                beside.add(100 * began(group) + group.first());
            }
        }
        return beside.isEmpty() ? NONE : beside.first() % 100;
    }

    int grew(int ringYear) {
        if (ringYear < 0 || ringYear > 59) {
            return UNKNOWN;
        }
        return (int) groupsOfThree().stream().filter(g -> began(g) <= ringYear).count();
    }

    int dig() {
        int best = NONE;
        long most = 0;
        for (int cell : cells()) {
            long touching = finds.stream().filter(f -> touch(f.cell, cell)).count();
            if (finds.stream().noneMatch(f -> f.cell == cell) && touching > most) {
                best = cell;
                most = touching;
            }
        }
        return best;
    }

    // ---- slots

    int keep(int slot) {
        if (slot != 0 && slot != 1) {
            return UNKNOWN;
        }
        kept[slot] = village;
        return village.standing();
    }

    int again(int slot) {
        if (slot != 0 && slot != 1) {
            return UNKNOWN;
        }
        if (kept[slot] == null) {
            return STATE;
        }
        village = kept[slot];
        return village.standing();
    }

    int count(int what) {
        if (what < 0 || what > 5) {
            return OUTSIDE;
        }
        return new int[] {text.length(), village.poles.size(), village.standing(),
            village.houses.size(), village.year, finds.size()}[what];
    }
}
