/** What the tests share: it counts the answers that are not due, and writes texts. */
final class Due {
    private static int wrong = 0;

    private Due() {
    }

    static void due(String call, long got, long want) {
        if (got != want) {
            wrong++;
            System.out.println(call + " answered " + got + ", due is " + want);
        }
    }

    static void write(PolesInALake x, String text) {
        x.wipe();
        for (int at = 0; at < text.length(); at++) {
            due("write " + text, x.write(1, text.charAt(at)), at + 1);
        }
    }

    static PolesInALake lake(String text) {
        PolesInALake x = new PolesInALake();
        write(x, text);
        if (x.lake() < 1) {
            wrong++;
            System.out.println(text + " is no lake");
        }
        return x;
    }

    static void years(PolesInALake x, int n) {
        for (int k = 0; k < n; k++) {
            x.year();
        }
    }

    static void end() {
        if (wrong != 0) {
            System.out.println(wrong + " answers are not as due");
            System.exit(1);
        }
    }
}
