/** The last numbers that are taken and the first that are refused, on both sides. */
final class Edge {
    /** A call on an object of its own, by one of its numbers. */
    interface Call {
        long by(int number);
    }

    private Edge() {
    }

    /** Refused are least - 1 and most + 1, and what lies far beyond; least and most are taken. */
    static void bounds(String call, int least, int most, long refusal, Call made) {
        for (int number : new int[] {least - 1, most + 1, -1000, 100000,
            Integer.MIN_VALUE, Integer.MAX_VALUE}) {
            Due.due(call + " by " + number, made.by(number), refusal);
        }
        for (int number = least; number <= most; number++) {
            long got = made.by(number);
            Due.isTrue(call + " by " + number + " is taken, answered " + got,
                got >= 0 || got == PolesInALake.NONE);
        }
    }
}
