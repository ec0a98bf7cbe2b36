/** The edges that part 1 of the terms and promises 1 to 7 name: the text and the lake. */
final class LakeEdges {
    private static final int UNKNOWN = PolesInALake.UNKNOWN;
    private static final int OUTSIDE = PolesInALake.OUTSIDE;
    private static final int STATE = PolesInALake.STATE;
    private static final int FULL = PolesInALake.FULL;
    private static final int NONE = PolesInALake.NONE;
    /** Each part that is told once, and the number by which about() tells it. */
    private static final String ONCE = "MCBI";

    private LakeEdges() {
    }

    static void all() {
        newObject();
        cells();
        woods();
        text();
        partsOnce();
        sizePart();
        clayPart();
        numberParts();
        woodPart();
        faultPlaces();
        faultAtEnd();
        faultLengthSetAside();
        firstLake();
        writeBytes();
        writeRefused();
        wipe();
        fault();
        lake();
        lakeGone();
        lakeRefused();
        about();
        clay();
    }

    private static PolesInALake wrote(String text) {
        PolesInALake x = new PolesInALake();
        Due.write(x, text);
        return x;
    }

    private static void fault(String text, int want) {
        PolesInALake x = wrote(text);
        Due.due("fault of " + text, x.fault(), want);
        Due.isTrue("lake of " + text, want == NONE ? x.lake() >= 1 : x.lake() == STATE);
    }

    private static void newObject() {
        Doc.says("1", "Four CELLS, no POLES.");
        PolesInALake x = new PolesInALake();
        int cells = 0;
        for (int cell = -30; cell < 130; cell++) {
            cells += x.clay(cell) != UNKNOWN ? 1 : 0;
        }
        Due.due("cells", cells, 4);
        Due.due("the last cell", x.clay(11), 5);
        Due.due("poles", x.count(1), 0);
        Due.due("those that stand", x.count(2), 0);
        Due.due("no pole 0", x.told(0, 0), UNKNOWN);
        Due.due("no house 0", x.home(0, 0), UNKNOWN);
        Due.due("no find 0", x.group(0), UNKNOWN);
        Due.due("no bytes", x.count(0), 0);
        x.pole(0, 0, 1, false);
        Due.due("another new object has none", new PolesInALake().count(1), 0);
    }

    private static void cells() {
        Doc.says("Terms", "CELLS are told as 10 times the row and the column, both less than n.");
        for (int n = 2; n <= 6; n++) {
            PolesInALake x = Due.lake("N" + n);
            for (int cell = -12; cell < 120; cell++) {
                boolean known = cell >= 0 && cell / 10 < n && cell % 10 < n;
                Due.due("N" + n + ": clay " + cell, x.clay(cell), known ? 5 : UNKNOWN);
            }
            for (int cell : new int[] {-1000, 1000, 100000, Integer.MIN_VALUE, Integer.MAX_VALUE}) {
                Due.due("N" + n + ": clay " + cell, x.clay(cell), UNKNOWN);
            }
            int last = 11 * (n - 1);
            cellOfEachCall("N" + n, last, true);
            cellOfEachCall("N" + n, last + 1, false);
            cellOfEachCall("N" + n, last + 10, false);
            cellOfEachCall("N" + n, 10 * n, false);
            cellOfEachCall("N" + n, n, false);
            cellOfEachCall("N" + n, 0, true);
            cellOfEachCall("N" + n, -1, false);
            cellOfEachCall("N" + n, -10, false);
        }
    }

    private static void cellOfEachCall(String text, int cell, boolean known) {
        PolesInALake x = Due.lake(text);
        String at = text + ", cell " + cell;
        Due.due(at + ": pole", x.pole(cell, 0, 1, false), known ? 0 : UNKNOWN);
        Due.due(at + ": build", x.build(cell, 1, 1), known ? 1002 : UNKNOWN);
        Due.due(at + ": find", x.find(cell, 0, 0), known ? 0 : UNKNOWN);
        Due.due(at + ": house from it", x.house(cell, 11 * (x.about(0) - 1), 1), known ? 0 : UNKNOWN);
        x = Due.lake(text);
        Due.due(at + ": house to it", x.house(0, cell, 1), known ? 0 : UNKNOWN);
    }

    private static void woods() {
        Doc.says("Terms", "WOODS are 0 to 2.");
        Edge.bounds("pole", 0, 2, UNKNOWN, wood -> new PolesInALake().pole(0, wood, 1, false));
        Edge.bounds("find", 0, 2, UNKNOWN, wood -> new PolesInALake().find(0, wood, 0));
    }

    private static void text() {
        Doc.says("Terms", "THE TEXT is bytes (64 at most).");
        for (int from = 0; from < 256; from += 64) {
            PolesInALake x = new PolesInALake();
            for (int k = 0; k < 64; k++) {
                Due.due("byte " + (from + k), x.write(1, from + k), k + 1);
            }
            Due.due("one more", x.write(1, 0), FULL);
            Due.due("64", x.count(0), 64);
        }
    }

    private static void partsOnce() {
        Doc.says("Terms", "A LAKE is a TEXT of PARTS, one behind the other, of a letter (and its CELL, WOOD) just once:");
        for (int k = 0; k < ONCE.length(); k++) {
            char letter = ONCE.charAt(k);
            fault("N3" + letter + "4", NONE);
            fault("N3" + letter + "4" + letter, 4);
            fault("N3" + letter + "4" + letter + "4", 4);
            fault("N3" + letter + "4D111R19" + letter + "5", 11);
        }
        fault("N3N", 2);
        fault("N3M1N3", 4);
        fault("N3D111D112", 8);
        fault("N3D111D122D11", 12);
        fault("N3D111D112M1", 8);
        fault("N3D111D101D121D011D211", NONE);
        fault("N3R11R1", 6);
        fault("N3R11R12", 6);
        fault("N3R11R01R1", 9);
        fault("N3R11R01R21", NONE);
        fault("N3 M1", 2);
        fault("N3M1 ", 4);
        fault("N3M11", 4);
        fault("N3D1111", 6);
        fault("N3R111", 5);
        fault("N33", 2);
    }

    private static void sizePart() {
        Doc.says("Terms", "Nn n by n CELLS (2 to 6); the first PART");
        for (int figure = 0; figure < 256; figure++) {
            fault("N" + (char) figure, figure >= '2' && figure <= '6' ? NONE : 1);
        }
        for (int letter = 0; letter < 256; letter++) {
            fault((char) letter + "2", letter == 'N' ? NONE : 0);
        }
        fault("M1N2", 0);
        fault("D001N2", 0);
        fault("R01N2", 0);
    }

    private static void clayPart() {
        Doc.says("Terms", "Drcx at the CELL of row r, column c clay begins x feet down (0 to 9; else 5)");
        for (int n = 2; n <= 6; n++) {
            for (int figure = 0; figure < 256; figure++) {
                boolean inside = figure >= '0' && figure < '0' + n;
                fault("N" + n + "D" + (char) figure + "01", inside ? NONE : 3);
                fault("N" + n + "D0" + (char) figure + "1", inside ? NONE : 4);
            }
        }
        for (int figure = 0; figure < 256; figure++) {
            boolean taken = figure >= '0' && figure <= '9';
            fault("N2D10" + (char) figure, taken ? NONE : 5);
        }
        for (int feet = 0; feet <= 9; feet++) {
            PolesInALake x = Due.lake("N3D12" + feet);
            Due.due("told", x.clay(12), feet);
            Due.due("the row and the column are not one for the other", x.clay(21), 5);
            Due.due("else", x.clay(0), 5);
        }
    }

    private static void numberParts() {
        Doc.says("Terms", "Mx a foot in mud holds x (0 to 9; else 1)");
        numberPart('M', 1, 1);
        Doc.says("Terms", "Cx a foot in clay holds x (0 to 9; else 4)");
        numberPart('C', 2, 4);
        Doc.says("Terms", "Bx a collar holds x (0 to 9; else 5)");
        numberPart('B', 3, 5);
        Doc.says("Terms", "Ix ice lifts what holds less than x (0 to 9; else 0)");
        numberPart('I', 4, 0);
    }

    private static void numberPart(char letter, int what, int otherwise) {
        for (int figure = 0; figure < 256; figure++) {
            fault("N2" + letter + (char) figure, figure >= '0' && figure <= '9' ? NONE : 3);
        }
        for (int number = 0; number <= 9; number++) {
            Due.due(letter + " told", Due.lake("N2" + letter + number).about(what), number);
        }
        Due.due(letter + " untold", Due.lake("N2").about(what), otherwise);
        PolesInALake x = Due.lake("N2" + letter + "9");
        Due.write(x, "N3");
        x.lake();
        Due.due(letter + " untold by a later lake", x.about(what), otherwise);
    }

    private static void woodPart() {
        Doc.says("Terms", "Rwx a pole of WOOD w lasts x YEARS (1 to 9; else 5)");
        for (int figure = 0; figure < 256; figure++) {
            fault("N2R" + (char) figure + "1", figure >= '0' && figure <= '2' ? NONE : 3);
            fault("N2R2" + (char) figure, figure >= '1' && figure <= '9' ? NONE : 4);
        }
        for (int wood = 0; wood < 3; wood++) {
            for (int years = 1; years <= 9; years++) {
                PolesInALake x = Due.lake("N2R" + wood + years);
                for (int other = 0; other < 3; other++) {
                    Due.due("wood " + other, x.about(5 + other), other == wood ? years : 5);
                }
            }
        }
    }

    private static void faultPlaces() {
        Doc.says("Terms", "FAULT: the place of the first byte by which THE TEXT can be no LAKE, whatever came behind it");
        fault("X", 0);
        fault("XN2", 0);
        fault("N2X", 2);
        fault("N2XM1", 2);
        fault("N2XX", 2);
        fault("N9M", 1);
        fault("N2MX", 3);
        // nothing is left that could follow
        fault("N2D001D012D0", 11);
        fault("N2D101D112D1", 11);
        fault("N3D001D012D0", 12);
        fault("N3D001D012D023D0", 15);
        fault("N2D001D012D101D", 15);
        fault("N2D001D012D101D1", 16);
        fault("N2D001D012D101D11", 17);
        fault("N2D001D012D101D112D", 18);
        fault("N2R01R11R", 9);
        fault("N2R01R21R", 9);
        fault("N2R11R21R", 9);
        fault("N2R01R11R21R", 11);
        String last = RefusalsTest.fullText();
        fault(last.substring(0, 63) + "x", 63);
        fault(last.substring(0, 62) + "x7", 62);
        fault("x" + last.substring(1), 0);
    }

    private static void faultAtEnd() {
        Doc.says("Terms", "its length, if it is only not at its end; NONE: none.");
        fault("", 0);
        fault("N", 1);
        String text = "N3D124M5R17";
        for (int length = 1; length <= text.length(); length++) {
            // behind these bytes a part is at its end
            boolean atEnd = length == 2 || length == 6 || length == 8 || length == 11;
            fault(text.substring(0, length), atEnd ? NONE : length);
        }
        String full = RefusalsTest.fullText();
        fault(full, NONE);
        fault(full.substring(0, 63), 63);
        fault(full.substring(0, 62), NONE);
    }

    private static void faultLengthSetAside() {
        Doc.says("Terms", "(its length set aside);");
        String full = RefusalsTest.fullText();
        fault(full.substring(0, 62) + "D3", 64);
        fault(full.substring(0, 62) + "R0", 64);
        // 64 bytes, and the last part has no room for its end
        fault("N4R01" + full.substring(2, 58) + "D32", 64);
        fault("N4R01" + full.substring(2, 58) + "M1I", 64);
        fault("N4R01" + full.substring(2, 58) + "M1X", 63);
    }

    private static void firstLake() {
        Doc.says("Terms", "At first THE LAKE is N2.");
        PolesInALake x = new PolesInALake();
        PolesInALake y = Due.lake("N2");
        for (int what = 0; what < 8; what++) {
            Due.due("about " + what, x.about(what), y.about(what));
        }
        for (int cell = 0; cell < 60; cell++) {
            Due.due("clay " + cell, x.clay(cell), y.clay(cell));
        }
        Due.due("but no text was written", x.fault(), 0);
    }

    private static void writeBytes() {
        Doc.says("2", "n bytes (1 to 8) of v, the lowest n, the highest of these first, come behind THE TEXT: how long it is.");
        Edge.bounds("write", 1, 8, OUTSIDE, n -> new PolesInALake().write(n, 0x4E324D3143324233L));
        // N2M3C4B6: the first n of these bytes, behind bytes that are set aside
        long text = 0x4E324D3343344236L;
        int[] parts = {STATE, 1, STATE, 2, STATE, 3, STATE, 4};
        for (int n = 1; n <= 8; n++) {
            PolesInALake x = new PolesInALake();
            long higher = n == 8 ? 0 : -1L << (8 * n);
            Due.due("write " + n, x.write(n, text >>> (8 * (8 - n)) | higher), n);
            Due.due("lake of " + n + " bytes", x.lake(), parts[n - 1]);
        }
        PolesInALake x = new PolesInALake();
        Due.due("N3", x.write(2, 0x4E33L), 2);
        Due.due("behind it M8", x.write(2, 0x4D38L), 4);
        Due.due("lake", x.lake(), 2);
        Due.due("M", x.about(1), 8);
        x.wipe();
        Due.due("a byte above 127 ahead", x.write(8, 0xFF324D3143324233L), 8);
        Due.due("it is a byte too", x.fault(), 0);
        x.wipe();
        Due.due("zeros are bytes too", x.write(8, 0x4EL), 8);
        Due.due("so N is not the first", x.fault(), 0);
        x.wipe();
        Due.due("all bits", x.write(1, -1L), 1);
        Due.due("one byte of them", x.count(0), 1);
    }

    private static void writeRefused() {
        Doc.says("2", "OUTSIDE; FULL: it would be longer than 64 (nothing comes).");
        String full = RefusalsTest.fullText();
        for (int n = 1; n <= 8; n++) {
            PolesInALake x = wrote(full.substring(0, 64 - n));
            Due.due("just 64, by " + n, x.write(n, 0), 64);
            Due.due("and none more", x.write(1, 0), FULL);
            x = wrote(full.substring(0, 64 - n + 1));
            Due.due("65, by " + n, x.write(n, 0), FULL);
            Due.due("nothing comes", x.count(0), 64 - n + 1);
            Due.due("OUTSIDE ahead of FULL", x.write(9, 0), OUTSIDE);
            Due.due("OUTSIDE ahead of FULL", x.write(0, 0), OUTSIDE);
        }
        PolesInALake x = wrote(full.substring(0, 62));
        Due.due("three more bytes", x.write(3, 0x4D3758L), FULL);
        Due.due("of which none came", x.fault(), NONE);
        Due.due("two more bytes", x.write(2, 0x4D37L), 64);
        Due.due("lake", x.lake(), 17);
        Due.due("full", x.write(8, 0x4D384D384D384D38L), FULL);
        Due.due("the text is as it was", x.lake(), 17);
        Due.due("M", x.about(1), 7);
    }

    private static void wipe() {
        Doc.says("3", "THE TEXT is empty: how long it was.");
        String full = RefusalsTest.fullText();
        for (int length = 0; length <= 64; length++) {
            PolesInALake x = wrote(full.substring(0, length));
            Due.due("wipe of " + length, x.wipe(), length);
            Due.due("empty", x.count(0), 0);
            Due.due("wipe of none", x.wipe(), 0);
            Due.due("fault", x.fault(), 0);
            Due.due("lake", x.lake(), STATE);
        }
        PolesInALake x = Due.lake(full);
        x.wipe();
        Due.due("the lake stays", x.about(0), 4);
        Due.write(x, full);
        Due.due("64 bytes again", x.lake(), 17);
        x.wipe();
        Due.write(x, "N2");
        Due.due("what was wiped is not behind it", x.lake(), 1);
    }

    private static void fault() {
        Doc.says("4", "FAULT; NONE.");
        PolesInALake x = new PolesInALake();
        Due.due("of no text", x.fault(), 0);
        x.write(1, 'N');
        Due.due("of N", x.fault(), 1);
        x.write(1, '2');
        Due.due("of N2", x.fault(), NONE);
        Due.due("once more", x.fault(), NONE);
        x.write(1, '2');
        Due.due("of N22", x.fault(), 2);
        x.write(1, 'M');
        Due.due("the first stays", x.fault(), 2);
        Due.due("the lake is not what was faulty", x.about(0), 2);
    }

    private static void lake() {
        Doc.says("5", "THE TEXT is THE LAKE");
        Doc.says("5", ": how many PARTS.");
        for (int n = 2; n <= 6; n++) {
            PolesInALake x = wrote("N" + n);
            Due.due("one part", x.lake(), 1);
            Due.due("n", x.about(0), n);
        }
        StringBuilder most = new StringBuilder("N4M0C9B0I9R01R19R25");
        for (int k = 0; k < 11; k++) {
            most.append('D').append(k / 4).append(k % 4).append(9 - k % 10);
        }
        Due.due("bytes", most.length(), 63);
        PolesInALake x = wrote(most.toString());
        Due.due("no more parts than 19 have room", x.lake(), 19);
        int[] numbers = {4, 0, 9, 0, 9, 1, 9, 5};
        for (int what = 0; what < 8; what++) {
            Due.due("about " + what, x.about(what), numbers[what]);
        }
        for (int k = 0; k < 16; k++) {
            Due.due("clay " + k, x.clay(k / 4 * 10 + k % 4), k < 11 ? 9 - k % 10 : 5);
        }
        x = wrote(RefusalsTest.fullText());
        Due.due("64 bytes", x.lake(), 17);
    }

    private static void lakeGone() {
        Doc.says("5", "(POLES, HOUSES, FINDS and what was kept are gone, THE YEAR is 0)");
        PolesInALake x = RefusalsTest.full();
        Due.write(x, "N3R01");
        Due.due("lake", x.lake(), 2);
        for (int what = 1; what <= 5; what++) {
            Due.due("count " + what, x.count(what), 0);
        }
        Due.due("pole 0", x.told(0, 0), UNKNOWN);
        Due.due("house 0", x.home(0, 0), UNKNOWN);
        Due.due("down 0", x.down(0, 1), UNKNOWN);
        Due.due("find 0", x.group(0), UNKNOWN);
        Due.due("finds", x.unfind(), STATE);
        Due.due("one house", x.houses(), 0);
        Due.due("dig", x.dig(), NONE);
        Due.due("slot 0", x.again(0), STATE);
        Due.due("slot 1", x.again(1), STATE);
        for (int k = 0; k < 6; k++) {
            Due.due("a house anew", x.house(k / 3 * 10 + k % 3, k / 3 * 10 + k % 3, 1), k);
            Due.due("it is not down", x.home(k, 3), 0);
        }
        for (int k = 0; k < 24; k++) {
            Due.due("a pole anew", x.pole(0, 0, 1, false), k);
        }
        for (int k = 0; k < 16; k++) {
            Due.due("a find anew", x.find(0, 0, 0), k);
        }
        Due.due("put in the year 0", x.told(23, 5), 0);
        Due.due("all fall", x.year(), 24);
        Due.due("so it is down", x.home(0, 3), 1);
        Due.due("the year is 1", x.count(4), 1);
        Due.due("lake again", x.lake(), 2);
        x.house(0, 0, 1);
        Due.due("what fell is gone too", x.takes(1, 1), 0);
        Due.due("a house anew is not down", x.home(0, 3), 0);
    }

    private static void lakeRefused() {
        Doc.says("5", "STATE: a FAULT.");
        for (String text : new String[] {"", "N", "N7", "X", "N3M", "N3D12", "N3MX", "N3M1X", "N3M1M1"}) {
            PolesInALake x = Due.lake("N4M8D110");
            x.pole(33, 0, 1, false);
            x.year();
            Due.write(x, text);
            Due.due("lake of " + text, x.lake(), STATE);
            Due.due("the lake stays", x.about(0), 4);
            Due.due("the lake stays", x.about(1), 8);
            Due.due("the lake stays", x.clay(11), 0);
            Due.due("the pole stays", x.told(0, 7), 8);
            Due.due("the year stays", x.count(4), 1);
        }
    }

    private static void about() {
        Doc.says("6", "Of THE LAKE n (0), M (1), C (2), B (3), I (4), how long WOOD 0, 1, 2 lasts (5, 6, 7). OUTSIDE.");
        Edge.bounds("about", 0, 7, OUTSIDE, what -> new PolesInALake().about(what));
        PolesInALake least = Due.lake("N2M0C0B0I0R01R11R21");
        PolesInALake most = Due.lake("N6M9C9B9I9R09R19R29");
        PolesInALake own = Due.lake("N3M4C5B6I7R08R19R22");
        int[] lasts = {2, 0, 0, 0, 0, 1, 1, 1};
        int[] owns = {3, 4, 5, 6, 7, 8, 9, 2};
        for (int what = 0; what < 8; what++) {
            Due.due("least " + what, least.about(what), lasts[what]);
            Due.due("most " + what, most.about(what), what == 0 ? 6 : 9);
            Due.due("each its own " + what, own.about(what), owns[what]);
        }
    }

    private static void clay() {
        Doc.says("7", "Where clay begins in a CELL. UNKNOWN.");
        PolesInALake x = Due.lake("N6D000D059D501D558D222");
        Due.due("first", x.clay(0), 0);
        Due.due("first row", x.clay(5), 9);
        Due.due("last row", x.clay(50), 1);
        Due.due("last", x.clay(55), 8);
        Due.due("within", x.clay(22), 2);
        Due.due("untold", x.clay(54), 5);
        Due.due("row 6", x.clay(60), UNKNOWN);
        Due.due("column 6", x.clay(6), UNKNOWN);
        Due.due("column 6 of the last row", x.clay(56), UNKNOWN);
        Due.due("-1", x.clay(-1), UNKNOWN);
        Due.write(x, "N2");
        x.lake();
        Due.due("a cell of the lake before", x.clay(22), UNKNOWN);
        Due.write(x, "N3");
        x.lake();
        Due.due("it is not told any more", x.clay(22), 5);
    }
}
