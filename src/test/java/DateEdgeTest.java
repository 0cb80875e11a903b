/** The edges that promises 37 to 49 name: dates. */
public final class DateEdgeTest {
    private static final int MAX = Integer.MAX_VALUE;
    private static final int MIN = Integer.MIN_VALUE;
    private static final int REFUSED = -9;
    private static final int[] LENGTHS = {31, 28, 31, 30, 31, 30, 31, 31, 30, 31, 30, 31};
    private static final int[] FIRST = {1600, 1, 1};
    private static final int[] LAST = {2400, 12, 31};
    private static final int[] MIDDLE = {2000, 1, 31};
    /** From the first day, the last one and one between them: spans that lead out of the calendar. */
    private static final int[][] FROM_FIRST = {{0, 0, -1}, {0, -1, 0}, {-1, 0, 0}, {801, 0, 0}, {0, 9612, 0},
        {0, 0, 292560}, {0, -1, 31}, {-1, 0, 366}, {800, 11, 31}, {MIN, MIN, MIN}, {0, 0, MAX}, {1 << 30, 0, 0}};
    private static final int[][] FROM_LAST = {{0, 0, 1}, {0, 1, 0}, {1, 0, 0}, {-801, 0, 0}, {0, -9612, 0},
        {0, 0, -292560}, {0, 1, -31}, {1, 0, -366}, {-800, -11, -31}, {MAX, MAX, MAX}, {0, 0, MAX}, {1 << 30, 0, 0}};
    private static final int[][] FROM_MIDDLE = {{401, 0, 0}, {-401, 0, 0}, {MAX, 0, 0}, {0, MAX, 0}, {0, 0, MAX},
        {400, 11, 1}, {-400, 0, -31}, {MAX, MAX, MAX}, {-MAX, -MAX, -MAX}, {MIN, 0, 0}, {0, MIN, 0}, {0, 0, MIN}};
    private static final int[][] ANY_DAYS = {FIRST, LAST, MIDDLE, {2024, 2, 29}, {2024, 2, 28}, {1970, 1, 1}};
    /** Pairs of which the second one is first, and the first one's day of the month is above 28. */
    private static final int[][][] NOT_TOLD = {{{2024, 3, 29}, {2024, 3, 28}}, {{2024, 3, 30}, {2024, 2, 29}},
        {{2024, 3, 31}, {2024, 3, 30}}, {LAST, FIRST}, {{2024, 2, 29}, {2023, 2, 28}}, {MIDDLE, {1999, 12, 31}}};
    private static final String NO_DATE = "Throws `IndexOutOfBoundsException` if there is no such DATE";
    private static final String NO_DATES = NO_DATE + " (both)";
    private static final String NO_DATE_OR_CARD = NO_DATE + " or CARD";
    private static final String NO_CARD_OR_DATE =
        "Throws `IndexOutOfBoundsException` if there is no such CARD or DATE (both)";
    private static final String OR_THE_SAME = "`other`: the DATE b, or the same";

    public static void main(String[] args) {
        Edges edges = new Edges(args);
        set(edges);
        moved(edges);
        between(edges);
        asked(edges);
        noDates(edges);
        edges.allOfPromises(37, 49);
        Due.end("DateEdgeTest");
    }

    private static void set(Edges edges) {
        edges.promise(37, "Returns 1 or 0.", DateEdgeTest::dateTells);
        edges.promise(37, "if year is not 1600 to 2400", DateEdgeTest::noYear);
        edges.promise(37, "month not 1 to 12", DateEdgeTest::noMonth);
        edges.promise(37, "or day not from 1 to how many days that month has", DateEdgeTest::noDay);
        edges.promise(38, "A DATE becomes as another one (or stays).", DateEdgeTest::copyOfItself);
    }

    private static void moved(Edges edges) {
        edges.promise(39, "Returns 1 or 0; REFUSED if that can not be done.", DateEdgeTest::moveBeyond);
        edges.promise(40, "Returns 1 or 0; REFUSED if that can not be done.", DateEdgeTest::backBeyond);
        edges.promise(41, "or till that can not be done (this is not counted as REFUSED).", DateEdgeTest::walkBeyond);
        edges.promise(41, "`many`: how often at most", DateEdgeTest::walkAtMost);
        edges.promise(41, "Throws `IllegalArgumentException` if many is not 1 to 12",
            () -> Kept.range(1, 12, (x, many) -> x.walk(0, 2, many)));
        edges.promise(46, "\"\" if that can not be done.", DateEdgeTest::movedBeyond);
    }

    private static void between(Edges edges) {
        edges.promise(42, OR_THE_SAME, () -> spanToItself((x, n) -> x.between(1, n, n)));
        edges.promise(42, "REFUSED if it is not told.", () -> notTold((x, a, b) -> x.between(1, a, b)));
        edges.promise(43, OR_THE_SAME, () -> spanToItself((x, n) -> x.until(1, n, n)));
        edges.promise(43, "REFUSED if it is not told.", () -> notTold((x, a, b) -> x.until(1, a, b)));
        edges.promise(43, "The same as between(), asked the other way: of the DATE a, how far it is until b.",
            DateEdgeTest::untilAsBetween);
        edges.promise(47, OR_THE_SAME, DateEdgeTest::apartFromItself);
        edges.promise(47, "\"\" if it is not told.", DateEdgeTest::apartNotTold);
        edges.promise(48, OR_THE_SAME, DateEdgeTest::toldBackToItself);
        edges.promise(48, "Returns whether the SPAN BETWEEN them is told, and a, MOVED by it, comes to b.",
            DateEdgeTest::toldBackOrNot);
    }

    private static void asked(Edges edges) {
        edges.promise(44, "`what`: 0 the year, 1 the month, 2 the day of the month, 3 its NUMBER",
            DateEdgeTest::partsOfDates);
        edges.promise(44, "Throws `IllegalArgumentException` if what is not 0 to 3",
            () -> Kept.range(0, 3, (x, what) -> x.ofDate(1, what)));
        edges.promise(45, "Returns it as a text.", DateEdgeTest::texts);
        edges.promise(49, "Returns -1 if the first one of both told is first, 1 if it is last, 0 if both are the same.",
            DateEdgeTest::orders);
    }

    private static void noDates(Edges edges) {
        edges.promise(37, NO_DATE, () -> Kept.oneOfFour((x, n) -> x.date(n, 2001, 2, 3)));
        edges.promise(38, NO_DATES, () -> Kept.twoOfFour((x, n, m) -> x.copyDate(n, m)));
        edges.promise(39, NO_DATE_OR_CARD, () -> Kept.twoOfFour((x, n, m) -> x.move(n, m)));
        edges.promise(40, NO_DATE_OR_CARD, () -> Kept.twoOfFour((x, n, m) -> x.back(n, m)));
        edges.promise(41, NO_DATE_OR_CARD, () -> Kept.twoOfFour((x, n, m) -> x.walk(n, m, 12)));
        edges.promise(42, NO_CARD_OR_DATE, () -> Kept.threeOfFour((x, n, m, k) -> x.between(n, m, k)));
        edges.promise(43, NO_CARD_OR_DATE, () -> Kept.threeOfFour((x, n, m, k) -> x.until(n, m, k)));
        edges.promise(44, NO_DATE, () -> Kept.oneOfFour((x, n) -> x.ofDate(n, 3)));
        edges.promise(45, NO_DATE, () -> Kept.oneOfFour((x, n) -> x.dateText(n)));
        edges.promise(46, NO_DATE_OR_CARD, () -> Kept.twoOfFour((x, n, m) -> x.moved(n, m, false)));
        edges.promise(46, NO_DATE_OR_CARD, () -> Kept.twoOfFour((x, n, m) -> x.moved(n, m, true)));
        edges.promise(47, NO_DATES, () -> Kept.twoOfFour((x, n, m) -> x.apart(n, m)));
        edges.promise(48, NO_DATES, () -> Kept.twoOfFour((x, n, m) -> x.isToldBack(n, m)));
        edges.promise(49, NO_DATES, () -> Kept.twoOfFour((x, n, m) -> x.order(n, m)));
    }

    private static Periodcard on(int[] day) {
        Periodcard x = new Periodcard();
        x.date(0, day[0], day[1], day[2]);
        return x;
    }

    private static Periodcard on(int[] day, int[] span) {
        Periodcard x = on(day);
        x.write(0, span[0], span[1], span[2]);
        return x;
    }

    private static Periodcard onTwo(int[] a, int[] b) {
        Periodcard x = on(a);
        x.date(1, b[0], b[1], b[2]);
        x.write(1, 9, 9, 9);
        return x;
    }

    // ---- dates are set

    private static void dateTells() {
        int[][] days = {{1600, 1, 1}, {2400, 12, 31}, {2000, 2, 29}, {2400, 2, 29}, {1600, 2, 29}, {1900, 2, 28}};
        for (int[] day : days) {
            Periodcard x = new Periodcard();
            Due.is("another day", x.date(3, day[0], day[1], day[2]), 1);
            Due.is("the same day", x.date(3, day[0], day[1], day[2]), 0);
            Due.is("text", x.dateText(3), day[0] + "-" + day[1] + "-" + day[2]);
            Due.is("another date stays", x.dateText(0), "2000-1-1");
        }
    }

    private static void noYear() {
        Kept.range(1600, 2400, (x, year) -> x.date(1, year, 1, 1));
        Kept.range(1600, 2400, (x, year) -> x.date(1, year, 12, 31));
        Kept.throwsArgument("a long year ahead of them", Kept.sample(), x -> x.date(1, 1596, 2, 29));
        Kept.throwsArgument("a long year behind them", Kept.sample(), x -> x.date(1, 2404, 2, 29));
        Kept.throwsArgument("year 0", Kept.sample(), x -> x.date(1, 0, 1, 1));
        Kept.throwsArgument("year -2000", Kept.sample(), x -> x.date(1, -2000, 1, 1));
    }

    private static void noMonth() {
        Kept.range(1, 12, (x, month) -> x.date(1, 2024, month, 1));
        Kept.range(1, 12, (x, month) -> x.date(1, 1600, month, 28));
        Kept.range(1, 12, (x, month) -> x.date(1, 2400, month, 28));
    }

    private static void noDay() {
        for (int month = 1; month <= 12; month++) {
            int that = month;
            int last = LENGTHS[month - 1];
            Kept.range(1, last, (x, day) -> x.date(1, 2023, that, day));
            Kept.range(1, month == 2 ? 29 : last, (x, day) -> x.date(1, 2024, that, day));
        }
        for (int year : new int[] {1700, 1800, 1900, 2100, 2200, 2300, 2023, 2025}) {
            Kept.range(1, 28, (x, day) -> x.date(1, year, 2, day));
        }
        for (int year : new int[] {1600, 2000, 2400, 2024, 1604, 2396}) {
            Kept.range(1, 29, (x, day) -> x.date(1, year, 2, day));
        }
    }

    private static void copyOfItself() {
        for (int n = 0; n < 4; n++) {
            Periodcard x = Kept.sample();
            Due.is("a date and itself", x.copyDate(n, n), 0);
            Due.is("all stays", Kept.all(x), Kept.all(Kept.sample()));
            String other = x.dateText((n + 1) % 4);
            Due.is("another one", x.copyDate(n, (n + 1) % 4), 1);
            Due.is("both", x.dateText(n) + x.dateText((n + 1) % 4), other + other);
            Due.is("again", x.copyDate(n, (n + 1) % 4), 0);
        }
    }

    // ---- dates are moved

    private interface Beyond {
        void from(int[] day, int[] span);
    }

    private static void allBeyond(Beyond beyond) {
        for (int n = 0; n < FROM_FIRST.length; n++) {
            beyond.from(FIRST, FROM_FIRST[n]);
            beyond.from(LAST, FROM_LAST[n]);
            beyond.from(MIDDLE, FROM_MIDDLE[n]);
        }
    }

    /** By the opposites; the least number has none, but 2 to the 31 leads out both ways. */
    private static void allBeyondBack(Beyond beyond) {
        allBeyond((day, span) -> {
            int[] opposite = new int[3];
            for (int k = 0; k < 3; k++) {
                opposite[k] = span[k] == MIN ? MAX : -span[k];
            }
            beyond.from(day, opposite);
        });
    }

    private static void moveBeyond() {
        allBeyond((day, span) -> Kept.refuses("move", on(day, span), x -> x.move(0, 0)));
        Due.is("to the last day", on(FIRST, new int[] {800, 11, 30}).move(0, 0), 1);
        Due.is("to the first day", on(LAST, new int[] {-800, -11, -30}).move(0, 0), 1);
        Due.is("by nothing", on(LAST, new int[3]).move(0, 0), 0);
        Due.is("by months that cancel out", on(LAST, new int[] {-1, 12, 0}).move(0, 0), 0);
        Periodcard x = on(LAST, new int[] {0, 0, 1});
        Kept.refuses("by a day", x, y -> y.move(0, 0));
        Kept.refuses("by a day, again", x, y -> y.move(0, 0));
        Due.is("back it can be done", x.back(0, 0), 1);
    }

    private static void backBeyond() {
        allBeyondBack((day, span) -> Kept.refuses("back", on(day, span), x -> x.back(0, 0)));
        Due.is("to the last day", on(FIRST, new int[] {-800, -11, -30}).back(0, 0), 1);
        Due.is("to the first day", on(LAST, new int[] {800, 11, 30}).back(0, 0), 1);
        Due.is("by nothing", on(FIRST, new int[3]).back(0, 0), 0);
        Due.is("by months that cancel out", on(FIRST, new int[] {1, -12, 0}).back(0, 0), 0);
        Due.is("4 months, from the least number", on(MIDDLE, new int[] {178956971, MIN, 0}).back(0, 0), 1);
        Kept.refuses("the least years", on(MIDDLE, new int[] {MIN, 0, 0}), x -> x.back(0, 0));
        Kept.refuses("the fewest days", on(MIDDLE, new int[] {0, 0, MIN}), x -> x.back(0, 0));
        Periodcard x = on(FIRST, new int[] {0, 0, 1});
        Kept.refuses("by a day", x, y -> y.back(0, 0));
        Due.is("on it can be done", x.move(0, 0), 1);
    }

    private static void movedBeyond() {
        allBeyond((day, span) -> Kept.tellsNothing("moved", on(day, span), x -> x.moved(0, 0, false)));
        allBeyondBack((day, span) -> Kept.tellsNothing("back", on(day, span), x -> x.moved(0, 0, true)));
        Due.is("to the last day", on(FIRST, new int[] {800, 11, 30}).moved(0, 0, false), "2400-12-31");
        Due.is("to the first day", on(LAST, new int[] {-800, -11, -30}).moved(0, 0, false), "1600-1-1");
        Due.is("back to the last day", on(FIRST, new int[] {-800, -11, -30}).moved(0, 0, true), "2400-12-31");
        Due.is("back to the first day", on(LAST, new int[] {800, 11, 30}).moved(0, 0, true), "1600-1-1");
        Due.is("by nothing", on(LAST, new int[3]).moved(0, 0, true), "2400-12-31");
    }

    private static void walkBeyond() {
        int[][] days = {LAST, {2400, 11, 30}, {2400, 12, 20}, {1600, 3, 31}, FIRST, {2000, 12, 31}};
        int[][] spans = {{0, 0, 1}, {0, 1, 0}, {0, 0, 1}, {0, -1, 0}, {0, 0, -1}, {200, 0, 0}};
        int[] due = {0, 1, 11, 2, 0, 2};
        String[] dueDay = {"2400-12-31", "2400-12-30", "2400-12-31", "1600-1-29", "1600-1-1", "2400-12-31"};
        for (int n = 0; n < due.length; n++) {
            Periodcard x = on(days[n], spans[n]);
            Due.is("walk " + n, x.walk(0, 0, 12), due[n]);
            Due.is("where it ends " + n, x.dateText(0), dueDay[n]);
            Due.is("walk " + n + " from there", x.walk(0, 0, 12), 0);
            Due.is("not counted", x.house(1), 0);
        }
        allBeyond((day, span) -> {
            Periodcard x = on(day, span);
            String before = Kept.all(x);
            Due.is("not once", x.walk(0, 0, 1), 0);
            Due.is("nothing changes", Kept.all(x) + x.house(1), before + 0);
        });
    }

    private static void walkAtMost() {
        for (int many = 1; many <= 12; many++) {
            Periodcard x = on(new int[] {2024, 1, 1}, new int[] {0, 0, 1});
            Due.is("walk of " + many, x.walk(0, 0, many), many);
            Due.is("where it ends", x.dateText(0), "2024-1-" + (1 + many));
        }
        Periodcard x = on(new int[] {2024, 1, 31}, new int[] {0, 1, 0});
        Due.is("by nothing", x.walk(0, 1, 12), 12);
        Due.is("it is moved again and again, not by all at once", x.walk(0, 0, 2), 2);
        Due.is("the 31st is lost on the way", x.dateText(0), "2024-3-29");
        Due.is("the card stays", x.text(0), "0y 1m 0d");
    }

    // ---- spans between dates

    private interface Told {
        int as(Periodcard x, int a, int b);
    }

    private static void spanToItself(Kept.ActAtOne act) {
        for (int[] day : ANY_DAYS) {
            Periodcard x = onTwo(day, day);
            Due.is("a date and itself", act.of(x, 0), 1);
            Due.is("nothing", x.text(1), "0y 0m 0d");
            Due.is("again", act.of(x, 0), 0);
            Due.is("the other date, which is the same", act.of(x, 1), 0);
            Due.is("not counted", x.house(1), 0);
        }
    }

    private static void notTold(Told told) {
        for (int[][] pair : NOT_TOLD) {
            Kept.refuses("above 28", onTwo(pair[0], pair[1]), x -> told.as(x, 0, 1));
            Due.is("the other way", told.as(onTwo(pair[0], pair[1]), 1, 0), 1);
            Periodcard x = onTwo(new int[] {pair[0][0], pair[0][1], 28}, FIRST);
            Due.is("of the 28th", told.as(x, 0, 1), 1);
            Due.is("again", told.as(x, 0, 1), 0);
        }
    }

    private static void untilAsBetween() {
        for (int[] a : ANY_DAYS) {
            for (int[] b : ANY_DAYS) {
                Periodcard x = onTwo(a, b);
                Periodcard y = onTwo(a, b);
                Due.is("until", x.until(1, 0, 1), y.between(1, 0, 1));
                Due.is("all", Kept.all(x) + x.house(1), Kept.all(y) + y.house(1));
            }
        }
        Periodcard x = onTwo(FIRST, LAST);
        x.until(1, 0, 1);
        Due.is("from a until b", x.text(1), "800y 11m 30d");
    }

    private static void apartFromItself() {
        for (int[] day : ANY_DAYS) {
            Due.is("a date and itself", onTwo(day, day).apart(0, 0), "0y 0m 0d");
            Due.is("two that are the same", onTwo(day, day).apart(1, 0), "0y 0m 0d");
        }
    }

    private static void apartNotTold() {
        for (int[][] pair : NOT_TOLD) {
            Kept.tellsNothing("above 28", onTwo(pair[0], pair[1]), x -> x.apart(0, 1));
            Due.is("the other way", onTwo(pair[0], pair[1]).apart(1, 0).isEmpty(), false);
        }
        Due.is("of the 28th", onTwo(new int[] {2400, 12, 28}, FIRST).apart(0, 1), "-800y -11m -27d");
        Due.is("from the first day to the last one", onTwo(FIRST, LAST).apart(0, 1), "800y 11m 30d");
    }

    private static void toldBackToItself() {
        for (int[] day : ANY_DAYS) {
            Due.is("a date and itself", onTwo(day, day).isToldBack(1, 1), true);
            Due.is("two that are the same", onTwo(day, day).isToldBack(0, 1), true);
        }
    }

    private static void toldBackOrNot() {
        for (int[][] pair : NOT_TOLD) {
            Periodcard x = onTwo(pair[0], pair[1]);
            String before = Kept.all(x);
            Due.is("not told", x.isToldBack(0, 1), false);
            Due.is("not counted, and nothing changes", Kept.all(x) + x.house(1), before + 0);
            x.ofDays(1, x.ofDate(1, 3) - x.ofDate(0, 3));
            Due.is("some span leads there", x.moved(0, 1, false), x.dateText(1));
            Due.is("still not told", x.isToldBack(0, 1), false);
            Due.is("the other way", x.isToldBack(1, 0), true);
        }
        for (int[] a : ANY_DAYS) {
            for (int[] b : ANY_DAYS) {
                Periodcard x = onTwo(a, b);
                boolean isTold = x.between(1, 0, 1) != REFUSED;
                x.copyDate(2, 0);
                Due.is("comes to b", x.isToldBack(0, 1), isTold && x.move(2, 1) != REFUSED && x.order(2, 1) == 0);
                Due.is("if it is told", x.isToldBack(0, 1), isTold);
            }
        }
    }

    // ---- what is asked of dates

    private static void partsOfDates() {
        int[][] due = {{1600, 1, 1, -135140}, {2400, 12, 31, 157419}, {1970, 1, 1, 0}, {1969, 12, 31, -1},
            {2000, 2, 29, 11016}};
        for (int[] day : due) {
            for (int what = 0; what < 4; what++) {
                Due.is(day[0] + ", " + what, on(day).ofDate(0, what), day[what]);
            }
        }
    }

    private static void texts() {
        Due.is("the first day", on(FIRST).dateText(0), "1600-1-1");
        Due.is("the last day", on(LAST).dateText(0), "2400-12-31");
        Due.is("at first", on(FIRST).dateText(1), "2000-1-1");
        Due.is("no 0 ahead of a digit", on(new int[] {1605, 9, 9}).dateText(0), "1605-9-9");
    }

    private static void orders() {
        int[][][] pairs = {{FIRST, LAST}, {FIRST, {1600, 1, 2}}, {{2400, 12, 30}, LAST}, {{1969, 12, 31}, {1970, 1, 1}},
            {{2024, 1, 31}, {2024, 2, 1}}, {{2023, 12, 31}, {2024, 1, 1}}, {{2024, 2, 28}, {2024, 2, 29}}};
        for (int[][] pair : pairs) {
            Due.is("first", onTwo(pair[0], pair[1]).order(0, 1), -1);
            Due.is("last", onTwo(pair[0], pair[1]).order(1, 0), 1);
            Due.is("the same", onTwo(pair[0], pair[0]).order(0, 1), 0);
            Due.is("itself", onTwo(pair[0], pair[1]).order(1, 1), 0);
        }
    }
}
