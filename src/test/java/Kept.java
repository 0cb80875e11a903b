/** Calls that may change nothing: what is refused, what is not told, what throws an exception. */
final class Kept {
    private static final int REFUSED = -9;
    /** Numbers of cards, or of dates, that are not there. */
    static final int[] NOT_THERE = {-1, 4, Integer.MAX_VALUE, Integer.MIN_VALUE};

    private Kept() {
    }

    interface Start {
        Periodcard make();
    }

    interface Act {
        Object of(Periodcard x);
    }

    interface ActAtOne {
        Object of(Periodcard x, int n);
    }

    interface ActAtTwo {
        Object of(Periodcard x, int n, int m);
    }

    interface ActAtThree {
        Object of(Periodcard x, int n, int m, int k);
    }

    /** An object in which no two cards, dates or laid spans are the same, and all has been counted. */
    static Periodcard sample() {
        Periodcard x = new Periodcard();
        x.take(0);
        x.knock();
        x.knock();
        int[][] spans = {{1, 14, -3}, {-2, 5, 40}, {0, 0, 9}, {7, -1, 0}};
        int[][] days = {{2024, 2, 29}, {1999, 12, 31}, {2001, 3, 15}, {1970, 1, 1}};
        for (int n = 0; n < 4; n++) {
            x.write(n, 50 + n, n, n);
            x.lay(n);
            x.write(n, spans[n][0], spans[n][1], spans[n][2]);
            x.date(n, days[n][0], days[n][1], days[n][2]);
        }
        return x;
    }

    /** All that an object tells of itself, but for how often REFUSED was told. */
    static String all(Periodcard x) {
        StringBuilder all = new StringBuilder();
        for (int n = 0; n < 4; n++) {
            all.append(x.text(n)).append(", ").append(x.dateText(n)).append(", ");
        }
        for (int k = 0; k < 8; k++) {
            all.append(x.piled(k)).append(", ");
        }
        return all.append(x.house(0)).append(" knocks, ").append(x.house(2)).append(" laid").toString();
    }

    static void refuses(String call, Periodcard x, Act act) {
        String before = all(x);
        int counted = x.house(1);
        Due.is(call, act.of(x), REFUSED);
        Due.is(call + " is counted once", x.house(1), counted + 1);
        Due.is(call + " changes nothing", all(x), before);
    }

    static void tellsNothing(String call, Periodcard x, Act act) {
        String before = all(x);
        int counted = x.house(1);
        Due.is(call, act.of(x), "");
        Due.is(call + " is not counted", x.house(1), counted);
        Due.is(call + " changes nothing", all(x), before);
    }

    static void throwsIndex(String call, Periodcard x, Act act) {
        String before = all(x) + x.house(1);
        Due.throwsIndex(call, () -> act.of(x));
        Due.is(call + " changes nothing", all(x) + x.house(1), before);
    }

    static void throwsArgument(String call, Periodcard x, Act act) {
        String before = all(x) + x.house(1);
        Due.throwsArgument(call, () -> act.of(x));
        Due.is(call + " changes nothing", all(x) + x.house(1), before);
    }

    /** There are cards (or dates) 0 to 3, and no others. */
    static void oneOfFour(Start start, ActAtOne act) {
        for (int n = 0; n < 4; n++) {
            act.of(start.make(), n);
        }
        for (int n : NOT_THERE) {
            throwsIndex("at " + n, start.make(), x -> act.of(x, n));
        }
    }

    static void oneOfFour(ActAtOne act) {
        oneOfFour(Kept::sample, act);
    }

    static void twoOfFour(ActAtTwo act) {
        for (int n = 0; n < 4; n++) {
            for (int m = 0; m < 4; m++) {
                act.of(sample(), n, m);
            }
            int there = n;
            for (int m : NOT_THERE) {
                throwsIndex("at " + there + ", " + m, sample(), x -> act.of(x, there, m));
                throwsIndex("at " + m + ", " + there, sample(), x -> act.of(x, m, there));
            }
        }
        throwsIndex("at neither", sample(), x -> act.of(x, 4, -1));
    }

    static void threeOfFour(ActAtThree act) {
        for (int k = 0; k < 4; k++) {
            int there = k;
            twoOfFour((x, n, m) -> act.of(x, n, m, there));
            twoOfFour((x, n, m) -> act.of(x, n, there, m));
            twoOfFour((x, n, m) -> act.of(x, there, n, m));
        }
    }

    /** An argument that has to be from least to most. */
    static void range(int least, int most, ActAtOne act) {
        for (int n = least; n <= most; n++) {
            act.of(sample(), n);
        }
        for (int n : new int[] {least - 1, most + 1, Integer.MIN_VALUE, Integer.MAX_VALUE}) {
            throwsArgument("of " + n, sample(), x -> act.of(x, n));
        }
    }
}
