/**
 * Poles in a lake: a lake told as a text, poles and houses in it and the years that go by,
 * what menders could do, how high the water comes, how rings are dated, and what was found.
 *
 * <p>All rows are made by the constructor and used again, so no call makes an object.
 */
public final class PolesInALake {
    public static final int UNKNOWN = -1, OUTSIDE = -2, STATE = -3, FULL = -4, NONE = -9;

    private static final int MOST_BYTES = 64;
    private static final int MOST_POLES = 24;
    private static final int MOST_HOUSES = 6;
    private static final int MOST_DEPTH = 15;
    private static final int MOST_WEIGHT = 999;
    private static final int MOST_YEARS = 60;
    private static final int MOST_RISES = 8;
    private static final int MOST_RISE = 20;
    private static final int MOST_WET_YEARS = 6;
    private static final int MOST_FINDS = 16;
    private static final int RING_YEARS = 60;
    private static final int MOST_RINGS = 9;
    private static final int SLOTS = 2;
    private static final int WOODS = 3;
    private static final int RULES = 4;

    /** Row 5 and column 5 of the widest lake are told as 55. */
    private static final int CELL_NUMBERS = 56;

    /** The numbers of a lake stand in the order in which about() tells them. */
    private static final int SIZE = 0, MUD = 1, CLAY = 2, COLLAR = 3, ICE = 4, LASTS = 5, NUMBERS = 8;
    private static final int[] ELSE = {2, 1, 4, 5, 0, 5, 5, 5};
    private static final int ELSE_CLAY_FROM = 5;
    private static final int UNTOLD = -1;

    private static final int MENDED_DEPTH = 9;
    private static final int COLLAR_WORK = 3;
    private static final int WOOD_WORK = 2;
    private static final int ONE_HOUSE = 3;

    private static final int[] TENS = {
        1, 10, 100, 1000, 10000, 100000, 1000000, 10000000, 100000000, 1000000000
    };

    private final int[] text = new int[MOST_BYTES];
    private int length;
    private final Reader reader = new Reader();
    private final Ground ground = new Ground();
    private final Village now = new Village(ground);
    private final Village trial = new Village(ground);
    private final Village[] slots = {new Village(ground), new Village(ground)};
    private final boolean[] kept = new boolean[SLOTS];
    private final Water water = new Water();
    private final LongRow longRow = new LongRow();
    private final Finds finds = new Finds(ground);

    public PolesInALake() {
        length = 0;
    }

    // ---- the lake

    public int write(int n, long v) {
        if (n < 1 || n > 8) {
            return OUTSIDE;
        }
        if (length + n > MOST_BYTES) {
            return FULL;
        }
        for (int k = n - 1; k >= 0; k--) {
            text[length] = (int) ((v >>> (8 * k)) & 255L);
            length++;
        }
        return length;
    }

    public int wipe() {
        int was = length;
        length = 0;
        return was;
    }

    public int fault() {
        return reader.faultIn(text, length);
    }

    public int lake() {
        if (reader.faultIn(text, length) != NONE) {
            return STATE;
        }
        ground.becomes(reader.read);
        now.clear();
        finds.clear();
        for (int slot = 0; slot < SLOTS; slot++) {
            kept[slot] = false;
        }
        return reader.parts;
    }

    public int about(int what) {
        if (what < 0 || what >= NUMBERS) {
            return OUTSIDE;
        }
        return ground.numbers[what];
    }

    public int clay(int cell) {
        if (!ground.hasCell(cell)) {
            return UNKNOWN;
        }
        return ground.clayFrom[cell];
    }

    // ---- poles, houses, years

    public int pole(int cell, int wood, int depth, boolean collar) {
        if (!ground.hasCell(cell) || !isWood(wood)) {
            return UNKNOWN;
        }
        if (depth < 1 || depth > MOST_DEPTH) {
            return OUTSIDE;
        }
        return now.putPole(cell, wood, depth, collar);
    }

    public int told(int pole, int what) {
        if (pole < 0 || pole >= now.poles) {
            return UNKNOWN;
        }
        switch (what) {
            case 0: return now.cell[pole];
            case 1: return now.wood[pole];
            case 2: return now.depth[pole];
            case 3: return now.depthAtFirst[pole];
            case 4: return now.collar[pole] ? 1 : 0;
            case 5: return now.putIn[pole];
            case 6: return now.stands(pole) ? 1 : 0;
            case 7: return now.holds(pole);
            default: return OUTSIDE;
        }
    }

    public int house(int cell, int other, int weight) {
        if (!ground.hasCell(cell) || !ground.hasCell(other)) {
            return UNKNOWN;
        }
        if (weight < 1 || weight > MOST_WEIGHT) {
            return OUTSIDE;
        }
        return now.addHouse(cell, other, weight);
    }

    public int home(int house, int what) {
        if (!isHouse(house)) {
            return UNKNOWN;
        }
        switch (what) {
            case 0: return now.polesOf(house);
            case 1: return now.shareOf(house);
            case 2: return now.offBy(house);
            case 3: return now.isDown[house] ? 1 : 0;
            case 4: return now.weight[house];
            default: return OUTSIDE;
        }
    }

    public int year() {
        return now.passYear();
    }

    // ---- what if

    public int down(int house, int n) {
        if (!isHouse(house)) {
            return UNKNOWN;
        }
        if (!areYears(n)) {
            return OUTSIDE;
        }
        return yearOfDownfall(0, house, n);
    }

    public int off(int house, int n, int x) {
        if (!isHouse(house)) {
            return UNKNOWN;
        }
        if (!areYears(n) || x < 0 || x > MOST_DEPTH) {
            return OUTSIDE;
        }
        trial.copyFrom(now);
        for (int k = 0; k < n; k++) {
            trial.passYear();
            if (trial.offBy(house) > x) {
                return now.thisYear + k;
            }
        }
        return NONE;
    }

    public int takes(int rule, int n) {
        if (!isRule(rule) || !areYears(n)) {
            return OUTSIDE;
        }
        return tryRule(rule, n);
    }

    public int mended(int rule, int house, int n) {
        if (!isHouse(house)) {
            return UNKNOWN;
        }
        if (!isRule(rule) || !areYears(n)) {
            return OUTSIDE;
        }
        return yearOfDownfall(rule, house, n);
    }

    public int bestRule(int house, int n) {
        if (!isHouse(house)) {
            return UNKNOWN;
        }
        if (!areYears(n)) {
            return OUTSIDE;
        }
        int best = NONE;
        int fewest = 0;
        for (int rule = 0; rule < RULES; rule++) {
            int taken = tryRule(rule, n);
            if (!trial.isDown[house] && (best == NONE || taken < fewest)) {
                best = rule;
                fewest = taken;
            }
        }
        return best;
    }

    public int build(int cell, int weight, int n) {
        if (!ground.hasCell(cell)) {
            return UNKNOWN;
        }
        if (weight < 1 || weight > MOST_WEIGHT || !areYears(n)) {
            return OUTSIDE;
        }
        // how a pole holds is the same for each wood, so the least wood that lasts is the least work
        for (int wood = 0; wood < WOODS; wood++) {
            if (ground.lasts(wood) > n) {
                return leastBuildOf(wood, cell, weight, n);
            }
        }
        return NONE;
    }

    // ---- water, rings

    public int rise(int feet) {
        if (feet < 0 || feet > MOST_RISE) {
            return OUTSIDE;
        }
        return water.mayRise(feet);
    }

    public int calm() {
        int were = water.rises;
        water.rises = 0;
        return were;
    }

    public long wet(int feet, int n, boolean upper) {
        if (feet < 0 || feet > MOST_RISE + 1 || n < 1 || n > MOST_WET_YEARS) {
            return OUTSIDE;
        }
        if (water.rises == 0) {
            return STATE;
        }
        long above = water.above(feet, n);
        long below = water.below(n);
        long common = commonDivisor(above, below);
        return upper ? above / common : below / common;
    }

    public int dry(int n, int x) {
        if (n < 1 || n > MOST_WET_YEARS || x < 0 || x > 100) {
            return OUTSIDE;
        }
        if (water.rises == 0) {
            return STATE;
        }
        int feet = 0;
        while (feet <= MOST_RISE && water.above(feet, n) * 100 > water.below(n) * x) {
            feet++;
        }
        return feet;
    }

    public int ring(int ringYear, int width) {
        if (!isRingYear(ringYear)) {
            return UNKNOWN;
        }
        if (width < 0 || width > 9) {
            return OUTSIDE;
        }
        int was = longRow.widths[ringYear];
        longRow.widths[ringYear] = width;
        return was;
    }

    public int match(int n, int rings, int ringYear) {
        if (!isSample(n, rings)) {
            return OUTSIDE;
        }
        if (ringYear < n - 1 || !isRingYear(ringYear)) {
            return UNKNOWN;
        }
        return longRow.unlike(n, rings, ringYear);
    }

    public int dated(int n, int rings) {
        if (!isSample(n, rings)) {
            return OUTSIDE;
        }
        return longRow.bestBut(NONE, n, rings);
    }

    public int sure(int n, int rings) {
        if (!isSample(n, rings)) {
            return OUTSIDE;
        }
        int best = longRow.bestBut(NONE, n, rings);
        int next = longRow.bestBut(best, n, rings);
        if (best == NONE || next == NONE) {
            return NONE;
        }
        return longRow.unlike(n, rings, next) - longRow.unlike(n, rings, best);
    }

    // ---- finds

    public int find(int cell, int wood, int ringYear) {
        if (!ground.hasCell(cell) || !isWood(wood) || !isRingYear(ringYear)) {
            return UNKNOWN;
        }
        // no call tells the wood of a find, so it is not held
        return finds.add(cell, ringYear);
    }

    public int unfind() {
        if (finds.size == 0) {
            return STATE;
        }
        return finds.takeBack();
    }

    public int group(int find) {
        if (!isFind(find)) {
            return UNKNOWN;
        }
        return finds.leastOf[find];
    }

    public int houses() {
        return finds.housesBegunBy(RING_YEARS);
    }

    public int later(int find) {
        if (!isFind(find)) {
            return UNKNOWN;
        }
        return finds.putBeside(find);
    }

    public int grew(int ringYear) {
        if (!isRingYear(ringYear)) {
            return UNKNOWN;
        }
        return finds.housesBegunBy(ringYear);
    }

    public int dig() {
        return finds.mostTouchedCell();
    }

    // ---- slots

    public int keep(int slot) {
        if (slot < 0 || slot >= SLOTS) {
            return UNKNOWN;
        }
        slots[slot].copyFrom(now);
        kept[slot] = true;
        return now.standing();
    }

    public int again(int slot) {
        if (slot < 0 || slot >= SLOTS) {
            return UNKNOWN;
        }
        if (!kept[slot]) {
            return STATE;
        }
        now.copyFrom(slots[slot]);
        return now.standing();
    }

    public int count(int what) {
        switch (what) {
            case 0: return length;
            case 1: return now.poles;
            case 2: return now.standing();
            case 3: return now.houseCount;
            case 4: return now.thisYear;
            case 5: return finds.size;
            default: return OUTSIDE;
        }
    }

    // ---- what several calls ask

    private boolean isHouse(int house) {
        return house >= 0 && house < now.houseCount;
    }

    private boolean isFind(int find) {
        return find >= 0 && find < finds.size;
    }

    private static boolean isWood(int wood) {
        return wood >= 0 && wood < WOODS;
    }

    private static boolean isRule(int rule) {
        return rule >= 0 && rule < RULES;
    }

    private static boolean areYears(int n) {
        return n >= 1 && n <= MOST_YEARS;
    }

    private static boolean isRingYear(int ringYear) {
        return ringYear >= 0 && ringYear < RING_YEARS;
    }

    private static boolean isSample(int n, int rings) {
        return n >= 1 && n <= MOST_RINGS && rings >= 0 && rings < TENS[n];
    }

    /** Lets n years go by in the trial, mended by a rule: how many poles that takes. */
    private int tryRule(int rule, int n) {
        trial.copyFrom(now);
        int taken = 0;
        for (int k = 0; k < n; k++) {
            taken += trial.mend(rule);
            trial.passYear();
        }
        return taken;
    }

    private int yearOfDownfall(int rule, int house, int n) {
        if (now.isDown[house]) {
            return NONE;
        }
        trial.copyFrom(now);
        for (int k = 0; k < n; k++) {
            trial.mend(rule);
            trial.passYear();
            if (trial.isDown[house]) {
                return now.thisYear + k;
            }
        }
        return NONE;
    }

    /** The build of least work of one wood, as it is told; of like ones that of least depth. */
    private int leastBuildOf(int wood, int cell, int weight, int n) {
        int best = NONE;
        int leastWork = 0;
        for (int depth = 1; depth <= MOST_DEPTH; depth++) {
            for (int collar = 0; collar <= 1; collar++) {
                int work = depth + COLLAR_WORK * collar + WOOD_WORK * wood;
                boolean better = best == NONE || work < leastWork;
                if (better && ground.bears(cell, depth, collar == 1, weight, n)) {
                    best = 1000 * work + 100 * wood + 2 * depth + collar;
                    leastWork = work;
                }
            }
        }
        return best;
    }

    /** At least 1, so that it may divide. */
    private static long commonDivisor(long one, long other) {
        long a = one;
        long b = other;
        for (int k = 0; k < 100 && b != 0; k++) {
            long rest = a % b;
            a = b;
            b = rest;
        }
        return Math.max(1L, a);
    }

    /** What a lake tells: its numbers, and where clay begins in each of its cells. */
    private static final class Ground {
        final int[] numbers = new int[NUMBERS];
        final int[] clayFrom = new int[CELL_NUMBERS];

        Ground() {
            forget();
            fillUntold();
        }

        void forget() {
            for (int k = 0; k < NUMBERS; k++) {
                numbers[k] = UNTOLD;
            }
            for (int cell = 0; cell < CELL_NUMBERS; cell++) {
                clayFrom[cell] = UNTOLD;
            }
        }

        void becomes(Ground read) {
            System.arraycopy(read.numbers, 0, numbers, 0, NUMBERS);
            System.arraycopy(read.clayFrom, 0, clayFrom, 0, CELL_NUMBERS);
            fillUntold();
        }

        private void fillUntold() {
            for (int k = 0; k < NUMBERS; k++) {
                if (numbers[k] == UNTOLD) {
                    numbers[k] = ELSE[k];
                }
            }
            for (int cell = 0; cell < CELL_NUMBERS; cell++) {
                if (clayFrom[cell] == UNTOLD) {
                    clayFrom[cell] = ELSE_CLAY_FROM;
                }
            }
        }

        boolean hasCell(int cell) {
            return cell >= 0 && cell / 10 < numbers[SIZE] && cell % 10 < numbers[SIZE];
        }

        int lasts(int wood) {
            return numbers[LASTS + wood];
        }

        int holding(int cell, int depth, boolean collar) {
            int inMud = Math.min(depth, clayFrom[cell]);
            int held = inMud * numbers[MUD] + (depth - inMud) * numbers[CLAY];
            return collar ? held + numbers[COLLAR] : held;
        }

        /** How deep a pole is behind the ice. */
        int behindIce(int cell, int depth, boolean collar) {
            return holding(cell, depth, collar) < numbers[ICE] ? depth - 1 : depth;
        }

        /** Whether a pole alone neither falls by ice nor sinks in n years; its rot is set aside. */
        boolean bears(int cell, int depth, boolean collar, int weight, int n) {
            int deep = depth;
            for (int k = 0; k < n; k++) {
                deep = behindIce(cell, deep, collar);
                if (deep < 1 || holding(cell, deep, collar) < weight) {
                    return false;
                }
            }
            return true;
        }
    }

    /** Reads a text as a lake, byte by byte, and stops at the first byte that no lake can have. */
    private static final class Reader {
        final Ground read = new Ground();
        int parts;
        /** The letter of the part that is being read; 0 between parts. */
        private int letter;
        /** How many figures of the part have been read. */
        private int figures;
        private int row;
        private int cell;
        private int wood;

        int faultIn(int[] text, int length) {
            read.forget();
            parts = 0;
            letter = 0;
            for (int at = 0; at < length && at < text.length; at++) {
                boolean fits = letter == 0 ? beginsPart(text[at]) : goesOn(text[at] - '0');
                if (!fits) {
                    return at;
                }
            }
            return parts == 0 || letter != 0 ? length : NONE;
        }

        private boolean beginsPart(int sign) {
            letter = sign;
            figures = 0;
            if (parts == 0) {
                return sign == 'N';
            }
            switch (sign) {
                case 'D': return hasCellLeft();
                case 'R': return hasWoodLeft();
                default: return isUntold(numberOf(sign));
            }
        }

        private boolean goesOn(int figure) {
            if (figure < 0 || figure > 9) {
                return false;
            }
            figures++;
            switch (letter) {
                case 'N': return figure >= 2 && figure <= 6 && tells(SIZE, figure);
                case 'D': return goesOnWithClay(figure);
                case 'R': return goesOnWithWood(figure);
                default: return tells(numberOf(letter), figure);
            }
        }

        private boolean goesOnWithClay(int figure) {
            if (figures == 1) {
                row = figure;
                return figure < read.numbers[SIZE] && hasCellLeftIn(figure);
            }
            if (figures == 2) {
                cell = 10 * row + figure;
                return read.hasCell(cell) && read.clayFrom[cell] == UNTOLD;
            }
            read.clayFrom[cell] = figure;
            return endsPart();
        }

        private boolean goesOnWithWood(int figure) {
            if (figures == 1) {
                wood = figure;
                return isWood(figure) && isUntold(LASTS + figure);
            }
            return figure >= 1 && tells(LASTS + wood, figure);
        }

        private boolean tells(int number, int figure) {
            if (number < 0 || number >= NUMBERS) {
                return false;
            }
            read.numbers[number] = figure;
            return endsPart();
        }

        private boolean endsPart() {
            letter = 0;
            parts++;
            return true;
        }

        private static int numberOf(int sign) {
            switch (sign) {
                case 'M': return MUD;
                case 'C': return CLAY;
                case 'B': return COLLAR;
                case 'I': return ICE;
                default: return NONE;
            }
        }

        private boolean isUntold(int number) {
            return number >= 0 && number < NUMBERS && read.numbers[number] == UNTOLD;
        }

        private boolean hasWoodLeft() {
            return isUntold(LASTS) || isUntold(LASTS + 1) || isUntold(LASTS + 2);
        }

        private boolean hasCellLeft() {
            for (int r = 0; r < read.numbers[SIZE]; r++) {
                if (hasCellLeftIn(r)) {
                    return true;
                }
            }
            return false;
        }

        private boolean hasCellLeftIn(int r) {
            for (int c = 0; c < read.numbers[SIZE]; c++) {
                if (read.clayFrom[10 * r + c] == UNTOLD) {
                    return true;
                }
            }
            return false;
        }
    }

    /** Poles, houses and the year: as they are, as they were kept, or as they could become. */
    private static final class Village {
        private final Ground ground;
        int poles;
        final int[] cell = new int[MOST_POLES];
        final int[] wood = new int[MOST_POLES];
        final int[] depth = new int[MOST_POLES];
        final int[] depthAtFirst = new int[MOST_POLES];
        final boolean[] collar = new boolean[MOST_POLES];
        final int[] putIn = new int[MOST_POLES];
        /** The year in which a pole fell; NONE while it stands. */
        final int[] fellIn = new int[MOST_POLES];
        int houseCount;
        final int[] leastCell = new int[MOST_HOUSES];
        final int[] weight = new int[MOST_HOUSES];
        final boolean[] isDown = new boolean[MOST_HOUSES];
        /** The house of a cell, or NONE. */
        private final int[] houseAt = new int[CELL_NUMBERS];
        int thisYear;

        Village(Ground ground) {
            this.ground = ground;
            clear();
        }

        void clear() {
            poles = 0;
            houseCount = 0;
            thisYear = 0;
            for (int at = 0; at < CELL_NUMBERS; at++) {
                houseAt[at] = NONE;
            }
        }

        void copyFrom(Village other) {
            thisYear = other.thisYear;
            poles = other.poles;
            for (int p = 0; p < poles; p++) {
                cell[p] = other.cell[p];
                wood[p] = other.wood[p];
                depth[p] = other.depth[p];
                depthAtFirst[p] = other.depthAtFirst[p];
                collar[p] = other.collar[p];
                putIn[p] = other.putIn[p];
                fellIn[p] = other.fellIn[p];
            }
            houseCount = other.houseCount;
            for (int h = 0; h < houseCount; h++) {
                leastCell[h] = other.leastCell[h];
                weight[h] = other.weight[h];
                isDown[h] = other.isDown[h];
            }
            for (int at = 0; at < CELL_NUMBERS; at++) {
                houseAt[at] = other.houseAt[at];
            }
        }

        int putPole(int at, int ofWood, int deep, boolean withCollar) {
            if (poles >= MOST_POLES) {
                return FULL;
            }
            int p = poles;
            cell[p] = at;
            wood[p] = ofWood;
            depth[p] = deep;
            depthAtFirst[p] = deep;
            collar[p] = withCollar;
            putIn[p] = thisYear;
            fellIn[p] = NONE;
            poles++;
            return p;
        }

        int addHouse(int from, int to, int weighing) {
            if (to / 10 < from / 10 || to % 10 < from % 10 || isBuiltOn(from, to)) {
                return STATE;
            }
            if (houseCount >= MOST_HOUSES) {
                return FULL;
            }
            int h = houseCount;
            leastCell[h] = from;
            weight[h] = weighing;
            isDown[h] = false;
            for (int r = from / 10; r <= to / 10; r++) {
                for (int c = from % 10; c <= to % 10; c++) {
                    houseAt[10 * r + c] = h;
                }
            }
            houseCount++;
            return h;
        }

        private boolean isBuiltOn(int from, int to) {
            for (int r = from / 10; r <= to / 10; r++) {
                for (int c = from % 10; c <= to % 10; c++) {
                    if (houseAt[10 * r + c] != NONE) {
                        return true;
                    }
                }
            }
            return false;
        }

        boolean stands(int p) {
            return fellIn[p] == NONE;
        }

        int holds(int p) {
            return ground.holding(cell[p], depth[p], collar[p]);
        }

        int standing() {
            int found = 0;
            for (int p = 0; p < poles; p++) {
                if (stands(p)) {
                    found++;
                }
            }
            return found;
        }

        private boolean isPoleOf(int h, int p) {
            return fellIn[p] == NONE && houseAt[cell[p]] == h;
        }

        int polesOf(int h) {
            int found = 0;
            for (int p = 0; p < poles; p++) {
                if (isPoleOf(h, p)) {
                    found++;
                }
            }
            return found;
        }

        int shareOf(int h) {
            int bearers = polesOf(h);
            if (bearers == 0 || isDown[h]) {
                return 0;
            }
            return (weight[h] + bearers - 1) / bearers;
        }

        int offBy(int h) {
            boolean any = false;
            int greatest = 0;
            int least = 0;
            for (int p = 0; p < poles; p++) {
                if (isPoleOf(h, p)) {
                    int sunk = depth[p] - depthAtFirst[p];
                    greatest = any ? Math.max(greatest, sunk) : sunk;
                    least = any ? Math.min(least, sunk) : sunk;
                    any = true;
                }
            }
            return greatest - least;
        }

        /** A year goes by: how many poles fell. */
        int passYear() {
            int fell = liftByIce();
            for (int h = 0; h < houseCount; h++) {
                sinkUnder(h);
            }
            fell += rot();
            for (int h = 0; h < houseCount; h++) {
                if (polesOf(h) == 0) {
                    isDown[h] = true;
                }
            }
            thisYear++;
            return fell;
        }

        private int liftByIce() {
            int fell = 0;
            for (int p = 0; p < poles; p++) {
                if (stands(p)) {
                    depth[p] = ground.behindIce(cell[p], depth[p], collar[p]);
                    if (depth[p] == 0) {
                        fellIn[p] = thisYear;
                        fell++;
                    }
                }
            }
            return fell;
        }

        private void sinkUnder(int h) {
            int share = shareOf(h);
            for (int p = 0; p < poles; p++) {
                if (isPoleOf(h, p)) {
                    int tooMuch = share - holds(p);
                    if (tooMuch > 0) {
                        depth[p] = Math.min(MOST_DEPTH, depth[p] + (tooMuch + 4) / 5);
                    }
                }
            }
        }

        private int rot() {
            int fell = 0;
            for (int p = 0; p < poles; p++) {
                int old = thisYear - putIn[p] + 1;
                if (stands(p) && old >= ground.lasts(wood[p])) {
                    fellIn[p] = thisYear;
                    fell++;
                }
            }
            return fell;
        }

        /** Menders come ahead of a year: how many poles they put in. */
        int mend(int rule) {
            int before = poles;
            for (int h = 0; h < houseCount; h++) {
                if (!isDown[h]) {
                    if (rule == 1 || rule == 3) {
                        putForFallen(h);
                    }
                    if ((rule == 2 || rule == 3) && isTooMuchForSome(h)) {
                        putPole(leastCell[h], 0, MENDED_DEPTH, false);
                    }
                }
            }
            return poles - before;
        }

        private void putForFallen(int h) {
            int before = poles;
            for (int p = 0; p < before; p++) {
                boolean justFell = !stands(p) && fellIn[p] == thisYear - 1;
                if (justFell && houseAt[cell[p]] == h) {
                    putPole(cell[p], 0, MENDED_DEPTH, false);
                }
            }
        }

        /** Whether the share of a house is more than some pole of it holds. */
        private boolean isTooMuchForSome(int h) {
            int share = shareOf(h);
            for (int p = 0; p < poles; p++) {
                if (isPoleOf(h, p) && share > holds(p)) {
                    return true;
                }
            }
            return false;
        }
    }

    /** By how many feet water may rise in a year, each as likely. */
    private static final class Water {
        final int[] feet = new int[MOST_RISES];
        int rises;

        int mayRise(int by) {
            if (rises >= MOST_RISES) {
                return FULL;
            }
            feet[rises] = by;
            rises++;
            return rises;
        }

        /** Of all runs of n years, those in which a floor is reached or passed. */
        long above(int floor, int n) {
            int under = 0;
            for (int k = 0; k < rises; k++) {
                if (feet[k] < floor) {
                    under++;
                }
            }
            return below(n) - power(under, n);
        }

        /** All runs of n years. */
        long below(int n) {
            return power(rises, n);
        }

        private static long power(int base, int n) {
            long product = 1;
            for (int k = 0; k < n; k++) {
                product *= base;
            }
            return product;
        }
    }

    /** The rings of the long row, with which samples are matched. */
    private static final class LongRow {
        final int[] widths = new int[RING_YEARS];

        int unlike(int n, int rings, int last) {
            int sum = 0;
            int rest = rings;
            for (int at = last; at > last - n && at >= 0; at--) {
                sum += Math.abs(widths[at] - rest % 10);
                rest /= 10;
            }
            return sum;
        }

        /** The ring year by which a sample is least unlike, one ring year set aside; NONE. */
        int bestBut(int aside, int n, int rings) {
            int best = NONE;
            int least = 0;
            for (int last = n - 1; last < RING_YEARS; last++) {
                if (last != aside) {
                    int sum = unlike(n, rings, last);
                    if (best == NONE || sum < least) {
                        best = last;
                        least = sum;
                    }
                }
            }
            return best;
        }
    }

    /** Pole ends that were found. Their groups are told anew whenever a find comes or goes. */
    private static final class Finds {
        private final Ground ground;
        int size;
        private final int[] cell = new int[MOST_FINDS];
        private final int[] ringYear = new int[MOST_FINDS];
        /** The least find of a find's group: the group goes by this number. */
        final int[] leastOf = new int[MOST_FINDS];
        private final int[] members = new int[MOST_FINDS];
        private final int[] began = new int[MOST_FINDS];

        Finds(Ground ground) {
            this.ground = ground;
        }

        void clear() {
            size = 0;
        }

        int add(int at, int felled) {
            if (size >= MOST_FINDS) {
                return FULL;
            }
            cell[size] = at;
            ringYear[size] = felled;
            size++;
            regroup();
            return size - 1;
        }

        int takeBack() {
            size = Math.max(0, size - 1);
            regroup();
            return size;
        }

        private void regroup() {
            for (int f = 0; f < size; f++) {
                leastOf[f] = f;
                for (int g = 0; g < f; g++) {
                    if (areKin(f, g)) {
                        join(leastOf[f], leastOf[g]);
                    }
                }
            }
            for (int f = 0; f < size; f++) {
                int g = leastOf[f];
                members[f] = 0;
                began[f] = ringYear[f];
                members[g]++;
                began[g] = Math.min(began[g], ringYear[f]);
            }
        }

        private void join(int one, int other) {
            int least = Math.min(one, other);
            int most = Math.max(one, other);
            for (int f = most; f < size; f++) {
                if (leastOf[f] == most) {
                    leastOf[f] = least;
                }
            }
        }

        private boolean areKin(int f, int g) {
            return touch(cell[f], cell[g]) && Math.abs(ringYear[f] - ringYear[g]) <= 1;
        }

        private static boolean touch(int at, int other) {
            return Math.abs(at / 10 - other / 10) <= 1 && Math.abs(at % 10 - other % 10) <= 1;
        }

        private boolean isHouse(int g) {
            return leastOf[g] == g && members[g] >= ONE_HOUSE;
        }

        int housesBegunBy(int year) {
            int found = 0;
            for (int g = 0; g < size; g++) {
                if (isHouse(g) && began[g] <= year) {
                    found++;
                }
            }
            return found;
        }

        /** The first earlier house that a find of no house touches, by its least find; NONE. */
        int putBeside(int find) {
            if (isHouse(leastOf[find])) {
                return NONE;
            }
            int first = NONE;
            for (int g = 0; g < size; g++) {
                boolean earlier = isHouse(g) && began[g] < ringYear[find];
                if (earlier && (first == NONE || began[g] < began[first]) && touches(find, g)) {
                    first = g;
                }
            }
            return first;
        }

        private boolean touches(int find, int g) {
            for (int f = 0; f < size; f++) {
                if (leastOf[f] == g && touch(cell[find], cell[f])) {
                    return true;
                }
            }
            return false;
        }

        int mostTouchedCell() {
            int best = NONE;
            int most = 0;
            for (int r = 0; r < ground.numbers[SIZE]; r++) {
                for (int c = 0; c < ground.numbers[SIZE]; c++) {
                    int touching = touchingUnfound(10 * r + c);
                    if (touching > most) {
                        best = 10 * r + c;
                        most = touching;
                    }
                }
            }
            return best;
        }

        /** How many finds touch a cell; 0, if it has finds itself. */
        private int touchingUnfound(int at) {
            int touching = 0;
            for (int f = 0; f < size; f++) {
                if (cell[f] == at) {
                    return 0;
                }
                if (touch(cell[f], at)) {
                    touching++;
                }
            }
            return touching;
        }
    }
}
