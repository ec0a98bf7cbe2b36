/** What the tests share: it counts the answers that are not due, and writes texts. */
final class Due {
    private static int wrong = 0;
    private static String sentence = "";

    private Due() {
    }

    /** The sentence of the document that the answers from here on hold to. */
    static void holdsTo(String words) {
        sentence = words;
    }

    static void due(String call, long got, long want) {
        if (got != want) {
            wrong++;
            System.out.println(sentence + call + " answered " + got + ", due is " + want);
        }
    }

    static void isTrue(String what, boolean holds) {
        if (!holds) {
            wrong++;
            System.out.println(sentence + what + ": this does not hold");
        }
    }

    static void write(PolesInALake x, String text) {
        x.wipe();
        for (int at = 0; at < text.length(); at++) {
            due("write " + text, x.write(1, text.charAt(at)), at + 1);
        }
    }

    static PolesInALake lake(String text) {
        PolesInALake x = new PolesInALake();
        write(x, text);
        isTrue(text + " is a lake", x.lake() >= 1);
        return x;
    }

    static void years(PolesInALake x, int n) {
        for (int k = 0; k < n; k++) {
            x.year();
        }
    }

    static void end() {
        if (wrong != 0) {
            System.out.println(wrong + " answers are not as due");
            System.exit(1);
        }
    }
}
