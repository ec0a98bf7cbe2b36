/** Promises 1 to 7: a new object, the text, its fault, the lake. */
public final class LakeTest {
    private static final int UNKNOWN = PolesInALake.UNKNOWN;
    private static final int OUTSIDE = PolesInALake.OUTSIDE;
    private static final int STATE = PolesInALake.STATE;
    private static final int FULL = PolesInALake.FULL;
    private static final int NONE = PolesInALake.NONE;

    public static void main(String[] args) {
        newObject();
        write();
        wipe();
        faults();
        faultsOfBytes();
        lake();
        lakeClears();
        about();
        clay();
        Due.end();
    }

    private static void newObject() {
        PolesInALake x = new PolesInALake();
        int[] numbers = {2, 1, 4, 5, 0, 5, 5, 5};
        for (int what = 0; what < 8; what++) {
            Due.due("new: about " + what, x.about(what), numbers[what]);
        }
        for (int what = 0; what < 6; what++) {
            Due.due("new: count " + what, x.count(what), 0);
        }
        for (int cell : new int[] {0, 1, 10, 11}) {
            Due.due("new: clay " + cell, x.clay(cell), 5);
        }
        Due.due("new: fault", x.fault(), 0);
        Due.due("new: calm", x.calm(), 0);
        Due.due("new: again 0", x.again(0), STATE);
        Due.due("new: again 1", x.again(1), STATE);
        for (int ringYear = 0; ringYear < 60; ringYear++) {
            Due.due("new: match " + ringYear, x.match(1, 0, ringYear), 0);
        }
    }

    private static void write() {
        PolesInALake x = new PolesInALake();
        Due.due("write 0", x.write(0, 1), OUTSIDE);
        Due.due("write 9", x.write(9, 1), OUTSIDE);
        Due.due("write -1", x.write(-1, 1), OUTSIDE);
        Due.due("write least", x.write(Integer.MIN_VALUE, 1), OUTSIDE);
        Due.due("write most", x.write(Integer.MAX_VALUE, 1), OUTSIDE);
        Due.due("nothing came", x.count(0), 0);
        Due.due("the lowest two bytes, the highest first", x.write(2, 0x7777777777774E33L), 2);
        Due.due("N3 has no fault", x.fault(), NONE);
        Due.due("eight bytes", x.write(8, 0x4D3143324233_4934L), 10);
        Due.due("N3M1C2B3I4 is a lake", x.lake(), 5);
        Due.due("I", x.about(4), 4);
        Due.due("M", x.about(1), 1);
        for (int k = 0; k < 6; k++) {
            Due.due("write on", x.write(8, -1L), 18 + 8 * k);
        }
        Due.due("longer than 64", x.write(7, 0), FULL);
        Due.due("OUTSIDE ahead of FULL", x.write(9, 0), OUTSIDE);
        Due.due("nothing came", x.count(0), 58);
        Due.due("just 64", x.write(6, 0), 64);
        Due.due("full", x.write(1, 0), FULL);
        Due.due("still 64", x.count(0), 64);
    }

    private static void wipe() {
        PolesInALake x = new PolesInALake();
        Due.due("wipe of none", x.wipe(), 0);
        Due.write(x, "N3M2");
        Due.due("wipe", x.wipe(), 4);
        Due.due("empty", x.count(0), 0);
        Due.due("wipe again", x.wipe(), 0);
        Due.due("an empty text is not at its end", x.fault(), 0);
        Due.due("no lake", x.lake(), STATE);
    }

    private static void faults() {
        fault("", 0);
        fault("N", 1);
        fault("N1", 1);
        fault("N7", 1);
        fault("N2", NONE);
        fault("N6", NONE);
        fault("M1", 0);
        fault("n2", 0);
        fault("2N", 0);
        fault("N2N2", 2);
        fault("N22", 2);
        fault("N2X", 2);
        fault("N2m1", 2);
        fault("N2D", 3);
        fault("N2D0", 4);
        fault("N2D00", 5);
        fault("N2D009", NONE);
        fault("N2D000", NONE);
        fault("N2D02", 4);
        fault("N2D2", 3);
        fault("N6D559", NONE);
        fault("N6D56", 4);
        fault("N6D6", 3);
        fault("N2D00x", 5);
        fault("N2D00D", 5);
        fault("N2D001D00", 8);
        fault("N2D001D01", 9);
        fault("N2D001D012D0", 11);
        fault("N2D001D012D1", 12);
        fault("N3D001D012D0", 12);
        fault("N2D001D012D103D1", 16);
        fault("N2D103D114D", 11);
        fault("N2D103D114D1", 11);
        fault("N2D103D114D001D0", 16);
        fault("N2D011D0", 8);
        fault("N2D011D00", 9);
        fault("N2D001D012D103D114D", 18);
        fault("N2D001D012D103D114M", 19);
        fault("N2R", 3);
        fault("N2R0", 4);
        fault("N2R00", 4);
        fault("N2R01", NONE);
        fault("N2R29", NONE);
        fault("N2R3", 3);
        fault("N2R09R0", 6);
        fault("N2R09R1", 7);
        fault("N2R09R11R25", NONE);
        fault("N2R09R11R25R", 11);
        fault("N2R09R11R", 9);
        fault("N2R09R25R", 9);
        fault("N2R11R25R", 9);
        for (String letter : new String[] {"M", "C", "B", "I"}) {
            fault("N2" + letter, 3);
            fault("N2" + letter + "0", NONE);
            fault("N2" + letter + "9", NONE);
            fault("N2" + letter + ":", 3);
            fault("N2" + letter + "/", 3);
            fault("N2" + letter + "0" + letter, 4);
            fault("N2" + letter + "0R19" + letter, 7);
        }
        fault("N2M1C2B3I4R01R12R23D009D018D107D116", NONE);
        StringBuilder longest = new StringBuilder("N4");
        for (int k = 0; k < 15; k++) {
            longest.append('D').append(k / 4).append(k % 4).append('7');
        }
        fault(longest.toString(), NONE);
        fault(longest + "D3", 64);
        fault(longest + "D2", 63);
    }

    private static void fault(String text, int want) {
        PolesInALake x = new PolesInALake();
        Due.write(x, text);
        Due.due("fault of " + text, x.fault(), want);
        Due.due("length of " + text, x.count(0), text.length());
        if (want != NONE) {
            Due.due("lake of " + text, x.lake(), STATE);
        }
    }

    private static void faultsOfBytes() {
        for (int sign = 0; sign < 256; sign++) {
            PolesInALake x = new PolesInALake();
            x.write(1, sign);
            Due.due("first byte " + sign, x.fault(), sign == 'N' ? 1 : 0);
            x.write(8, 0x4E32L << 48);
            x.wipe();
            x.write(2, 0x4E32L);
            x.write(1, sign);
            boolean letter = "DMCBIR".indexOf(sign) >= 0;
            Due.due("third byte " + sign, x.fault(), letter ? 3 : 2);
            x.wipe();
            x.write(3, 0x4E324DL);
            x.write(1, sign);
            Due.due("byte behind M " + sign, x.fault(), sign >= '0' && sign <= '9' ? NONE : 3);
        }
    }

    private static void lake() {
        PolesInALake x = new PolesInALake();
        Due.write(x, "N3D124R17M0C9B8I7");
        Due.due("parts", x.lake(), 7);
        Due.due("the text stays", x.count(0), 17);
        Due.due("once more", x.lake(), 7);
        int[] numbers = {3, 0, 9, 8, 7, 5, 7, 5};
        for (int what = 0; what < 8; what++) {
            Due.due("about " + what, x.about(what), numbers[what]);
        }
        Due.due("clay 12", x.clay(12), 4);
        x.write(1, 'M');
        Due.due("a fault", x.lake(), STATE);
        Due.due("the lake stays", x.about(0), 3);
        Due.due("the text stays", x.count(0), 18);
        Due.write(x, "N2");
        Due.due("a lake of one part", x.lake(), 1);
        int[] other = {2, 1, 4, 5, 0, 5, 5, 5};
        for (int what = 0; what < 8; what++) {
            Due.due("untold again: about " + what, x.about(what), other[what]);
        }
        Due.write(x, "N3");
        x.lake();
        Due.due("untold again: clay 12", x.clay(12), 5);
    }

    private static void lakeClears() {
        PolesInALake x = new PolesInALake();
        x.pole(0, 0, 3, false);
        x.house(0, 11, 7);
        x.find(0, 0, 0);
        x.rise(4);
        x.ring(7, 3);
        x.year();
        x.keep(0);
        x.keep(1);
        Due.due("no lake", x.lake(), STATE);
        Due.due("a refused lake clears no pole", x.count(1), 1);
        Due.due("a refused lake clears no slot", x.again(0), 1);
        Due.write(x, "N2");
        Due.due("fault alone clears nothing", x.fault(), NONE);
        Due.due("poles", x.count(1), 1);
        Due.due("lake", x.lake(), 1);
        int[] counts = {2, 0, 0, 0, 0, 0};
        for (int what = 0; what < 6; what++) {
            Due.due("cleared: count " + what, x.count(what), counts[what]);
        }
        Due.due("cleared: slot 0", x.again(0), STATE);
        Due.due("cleared: slot 1", x.again(1), STATE);
        Due.due("cells are free", x.house(0, 11, 7), 0);
        x.year();
        Due.due("down", x.home(0, 3), 1);
        x.lake();
        x.house(0, 0, 5);
        Due.due("a new house is not down", x.home(0, 3), 0);
        Due.due("no find", x.group(0), UNKNOWN);
        Due.due("water stays", x.calm(), 1);
        Due.due("rings stay", x.ring(7, 0), 3);
    }

    private static void about() {
        PolesInALake x = new PolesInALake();
        Due.due("about 8", x.about(8), OUTSIDE);
        Due.due("about -1", x.about(-1), OUTSIDE);
        Due.due("about most", x.about(Integer.MAX_VALUE), OUTSIDE);
        Due.due("about least", x.about(Integer.MIN_VALUE), OUTSIDE);
        x = Due.lake("N5R19R22R08");
        Due.due("wood 0", x.about(5), 8);
        Due.due("wood 1", x.about(6), 9);
        Due.due("wood 2", x.about(7), 2);
    }

    private static void clay() {
        PolesInALake x = Due.lake("N6D000D059D508D557");
        Due.due("clay 0", x.clay(0), 0);
        Due.due("clay 5", x.clay(5), 9);
        Due.due("clay 50", x.clay(50), 8);
        Due.due("clay 55", x.clay(55), 7);
        Due.due("clay 23", x.clay(23), 5);
        for (int cell : new int[] {-1, -10, 6, 9, 16, 56, 59, 60, 65, 100, 1000,
            Integer.MIN_VALUE, Integer.MAX_VALUE}) {
            Due.due("clay " + cell, x.clay(cell), UNKNOWN);
        }
        int cells = 0;
        for (int cell = -200; cell < 200; cell++) {
            cells += x.clay(cell) != UNKNOWN ? 1 : 0;
        }
        Due.due("cells", cells, 36);
    }
}
