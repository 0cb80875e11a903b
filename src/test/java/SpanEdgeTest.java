/** The edges that promises 1 to 36 name: spans, and the pile. */
public final class SpanEdgeTest {
    private static final int MAX = Integer.MAX_VALUE;
    private static final int MIN = Integer.MIN_VALUE;
    private static final int REFUSED = -9;
    private static final int[] ENDS = {MIN, MIN + 1, -1, 0, 1, MAX - 1, MAX};
    private static final String NO_CARD = "Throws `IndexOutOfBoundsException` if there is no such CARD";
    private static final String NO_CARDS = NO_CARD + " (both)";
    private static final String NO_WHAT = "Throws `IllegalArgumentException` if what is not 0 to 2";
    private static final String REFUSES = "Returns 1 or 0; REFUSED.";
    private static final String FAR = "`isFar`: whether 4000000000 times as many";

    public static void main(String[] args) {
        Edges edges = new Edges(args);
        written(edges);
        partsReckoned(edges);
        reckoned(edges);
        pile(edges);
        asked(edges);
        askedAsTexts(edges);
        noCard(edges);
        noCards(edges);
        edges.allOfPromises(1, 36);
        Due.end("SpanEdgeTest");
    }

    private static void written(Edges edges) {
        edges.promise(1, "Creates cards of nothing, an empty pile, and four dates of 1 January 2000.",
            SpanEdgeTest::newObject);
        edges.promise(2, "`years`: its YEARS (any number; likewise the others)", SpanEdgeTest::anySpan);
        edges.promise(3, "(the other numbers are 0; likewise with the next three)",
            () -> alone((x, many) -> x.ofYears(0, many), "y 0m 0d", ""));
        edges.promise(4, "A SPAN of MONTHS alone.",
            () -> alone((x, many) -> x.ofMonths(0, many), "m 0d", "0y "));
        edges.promise(5, "A SPAN of DAYS alone, seven for each week.", SpanEdgeTest::weeks);
        edges.promise(5, "REFUSED if so many DAYS can not be told.", SpanEdgeTest::tooManyWeeks);
        edges.promise(6, "A SPAN of DAYS alone.",
            () -> alone((x, many) -> x.ofDays(0, many), "d", "0y 0m "));
        edges.promise(7, "the two others stay.", SpanEdgeTest::othersStay);
        edges.promise(7, "`what`: 0 YEARS, 1 MONTHS, 2 DAYS", SpanEdgeTest::changedParts);
        edges.promise(7, "`number`: what that is then (any number)", SpanEdgeTest::changedToAny);
        edges.promise(7, NO_WHAT, () -> Kept.range(0, 2, (x, what) -> x.change(1, what, 77)));
        edges.promise(8, "A CARD gets the SPAN of another one (or of itself).", SpanEdgeTest::copyOfItself);
        edges.promise(9, "`other`: a CARD, or the same", SpanEdgeTest::swapWithItself);
        edges.promise(9, "Returns 1 or 0, as of the first one.", SpanEdgeTest::swapTells);
    }

    private static void partsReckoned(Edges edges) {
        edges.promise(10, "---- spans are reckoned (REFUSED, if that can not be done)", SpanEdgeTest::reckonedOrNot);
        edges.promise(10, "`many`: how many (any number)", SpanEdgeTest::anyMany);
        for (int number = 10; number <= 15; number++) {
            int call = number;
            edges.promise(number, REFUSES, () -> partToTheEnds(call));
            edges.promise(number, FAR, () -> farPart(call));
        }
    }

    private static void reckoned(Edges edges) {
        edges.promise(16, "`other`: the other one, or the same", SpanEdgeTest::plusItself);
        edges.promise(16, REFUSES, SpanEdgeTest::plusBeyond);
        edges.promise(17, "`other`: the other one, or the same", SpanEdgeTest::minusItself);
        edges.promise(17, REFUSES, SpanEdgeTest::minusBeyond);
        edges.promise(18, "`n`: how many times (any number)", SpanEdgeTest::anyTimes);
        edges.promise(18, REFUSES, SpanEdgeTest::multipliedBeyond);
        edges.promise(19, REFUSES, SpanEdgeTest::negatedBeyond);
        edges.promise(20, REFUSES, SpanEdgeTest::normalizedBeyond);
    }

    private static void pile(Edges edges) {
        edges.promise(21, "(it stays on the CARD, too).", SpanEdgeTest::laidStays);
        edges.promise(21, "Returns how many lie there then; REFUSED if 8 do.", SpanEdgeTest::fullPile);
        edges.promise(22, "What was laid last goes from the PILE to a CARD.", SpanEdgeTest::lastFirst);
        edges.promise(22, "Returns how many are left; REFUSED if none lies there.", SpanEdgeTest::emptyPile);
        edges.promise(23, "to 0 YEARS, 0 MONTHS and 0 DAYS they are added one by one, as they were laid.",
            SpanEdgeTest::sumOneByOne);
        edges.promise(23, "(The PILE stays.)", SpanEdgeTest::pileStays);
        edges.promise(23, "REFUSED if one of these sums can not be done.", SpanEdgeTest::sumBeyond);
        edges.promise(24, "`k`: which one, as they were laid, from 0 on", SpanEdgeTest::piledFrom0);
        edges.promise(24, "Returns it as a text; \"\" if there is none.", SpanEdgeTest::nonePiled);
    }

    private static void asked(Edges edges) {
        edges.promise(25, "(texts are \"\", if what they tell can not be done; that is not counted as REFUSED)",
            SpanEdgeTest::textsOfNothing);
        edges.promise(25, "`what`: 0 YEARS, 1 MONTHS, 2 DAYS", SpanEdgeTest::parts);
        edges.promise(25, NO_WHAT, () -> Kept.range(0, 2, (x, what) -> x.part(1, what)));
        edges.promise(26, "(digits, \"-\" ahead of them, if it is below 0)", SpanEdgeTest::totalsAround0);
        edges.promise(27, "Returns whether its SPAN is ZERO.", SpanEdgeTest::zeroAtEach);
        edges.promise(28, "Returns whether its SPAN is NEGATIVE.", SpanEdgeTest::negativeAtEach);
        edges.promise(29, "Returns whether both SPANS are the SAME.", SpanEdgeTest::sameAtEnds);
        edges.promise(30, "Returns whether both SPANS are ALIKE.", SpanEdgeTest::alikeAtEnds);
        edges.promise(31, "Returns its SPAN as a text.", SpanEdgeTest::textAtEnds);
    }

    private static void askedAsTexts(Edges edges) {
        edges.promise(32, "`n`: how many times (any number)", SpanEdgeTest::timesAny);
        edges.promise(32, "Returns n times its SPAN as a text.", SpanEdgeTest::timesBeyond);
        edges.promise(33, "added n times to 0 YEARS, 0 MONTHS and 0 DAYS, as a text.", SpanEdgeTest::addedBeyond);
        edges.promise(33, "Throws `IllegalArgumentException` if n is not 0 to 9",
            () -> Kept.range(0, 9, (x, n) -> x.added(1, n)));
        edges.promise(34, "`isTaken`: whether their difference, otherwise their sum", SpanEdgeTest::withItself);
        edges.promise(34, "Returns that as a text.", SpanEdgeTest::withBeyond);
        edges.promise(35, "Returns its SPAN, TIDY, as a text.", SpanEdgeTest::tidyBeyond);
        edges.promise(36, "Returns the opposite of its SPAN as a text.", SpanEdgeTest::oppositeBeyond);
    }

    private static void noCard(Edges edges) {
        noCard(edges, 2, (x, n) -> x.write(n, 1, 1, 1));
        noCard(edges, 3, (x, n) -> x.ofYears(n, 1));
        noCard(edges, 4, (x, n) -> x.ofMonths(n, 1));
        noCard(edges, 5, (x, n) -> x.ofWeeks(n, MAX));
        noCard(edges, 6, (x, n) -> x.ofDays(n, 1));
        noCard(edges, 7, (x, n) -> x.change(n, 0, 77));
        noCard(edges, 10, (x, n) -> x.plusYears(n, 1, true));
        noCard(edges, 11, (x, n) -> x.plusMonths(n, 1, true));
        noCard(edges, 12, (x, n) -> x.plusDays(n, 1, true));
        noCard(edges, 13, (x, n) -> x.minusYears(n, 1, true));
        noCard(edges, 14, (x, n) -> x.minusMonths(n, 1, true));
        noCard(edges, 15, (x, n) -> x.minusDays(n, 1, true));
        noCard(edges, 18, (x, n) -> x.multipliedBy(n, MAX));
        noCard(edges, 19, (x, n) -> x.negated(n));
        noCard(edges, 20, (x, n) -> x.normalized(n));
        noCard(edges, 21, (x, n) -> x.lay(n));
        edges.promise(21, NO_CARD, () -> Kept.oneOfFour(() -> laidDays(8), (x, n) -> x.lay(n)));
        noCard(edges, 22, (x, n) -> x.take(n));
        edges.promise(22, NO_CARD, () -> Kept.oneOfFour(Periodcard::new, (x, n) -> x.take(n)));
        noCard(edges, 23, (x, n) -> x.sum(n));
        noCard(edges, 25, (x, n) -> x.part(n, 0));
        noCard(edges, 26, (x, n) -> x.total(n));
        noCard(edges, 27, (x, n) -> x.isZero(n));
        noCard(edges, 28, (x, n) -> x.isNegative(n));
        noCard(edges, 31, (x, n) -> x.text(n));
        noCard(edges, 32, (x, n) -> x.times(n, MAX));
        noCard(edges, 33, (x, n) -> x.added(n, 9));
        noCard(edges, 35, (x, n) -> x.tidy(n));
        noCard(edges, 36, (x, n) -> x.opposite(n));
    }

    private static void noCard(Edges edges, int number, Kept.ActAtOne act) {
        edges.promise(number, NO_CARD, () -> Kept.oneOfFour(act));
    }

    private static void noCards(Edges edges) {
        noCards(edges, 8, (x, n, m) -> x.copy(n, m));
        noCards(edges, 9, (x, n, m) -> x.swap(n, m));
        noCards(edges, 16, (x, n, m) -> x.plus(n, m));
        noCards(edges, 17, (x, n, m) -> x.minus(n, m));
        noCards(edges, 29, (x, n, m) -> x.areSame(n, m));
        noCards(edges, 30, (x, n, m) -> x.areAlike(n, m));
        noCards(edges, 34, (x, n, m) -> x.with(n, m, false));
        noCards(edges, 34, (x, n, m) -> x.with(n, m, true));
    }

    private static void noCards(Edges edges, int number, Kept.ActAtTwo act) {
        edges.promise(number, NO_CARDS, () -> Kept.twoOfFour(act));
    }

    // ---- spans are written

    private static Periodcard with(int years, int months, int days) {
        Periodcard x = new Periodcard();
        x.write(0, years, months, days);
        return x;
    }

    /** A span on card 0 of which one number is told; the others are 5 years, 6 months or 7 days. */
    private static Periodcard withPart(int what, int number) {
        Periodcard x = with(5, 6, 7);
        x.change(0, what, number);
        return x;
    }

    private static Periodcard laidDays(int many) {
        Periodcard x = new Periodcard();
        for (int n = 1; n <= many; n++) {
            x.ofDays(0, n);
            x.lay(0);
        }
        return x;
    }

    private static void newObject() {
        Periodcard other = Kept.sample();
        Periodcard x = new Periodcard();
        Due.is("all", Kept.all(x), "0y 0m 0d, 2000-1-1, ".repeat(4) + ", ".repeat(8) + "0 knocks, 0 laid");
        Due.is("none is REFUSED", x.house(1), 0);
        Due.is("all are ZERO", x.house(3), 4);
        Due.is("the sum of an empty pile", x.sum(0), 0);
        Due.is("the empty pile", x.take(0), REFUSED);
        x.write(0, 7, 7, 7);
        x.date(0, 2001, 1, 1);
        Due.is("another object stays", Kept.all(other), Kept.all(Kept.sample()));
        Due.is("another card stays", x.text(1), "0y 0m 0d");
        Due.is("another date stays", x.dateText(1), "2000-1-1");
    }

    private static void anySpan() {
        for (int years : ENDS) {
            Periodcard x = new Periodcard();
            for (int months : ENDS) {
                for (int days : ENDS) {
                    String before = x.text(3);
                    String due = years + "y " + months + "m " + days + "d";
                    Due.is("write of " + due, x.write(3, years, months, days), before.equals(due) ? 0 : 1);
                    Due.is("written", x.text(3), due);
                }
            }
        }
    }

    private static void alone(Kept.ActAtOne act, String behind, String ahead) {
        for (int many : ENDS) {
            Periodcard x = with(7, -7, 7);
            Due.is("of " + many, act.of(x, many), 1);
            Due.is("text of " + many, x.text(0), ahead + many + behind);
            Due.is("again of " + many, act.of(x, many), 0);
        }
    }

    private static void weeks() {
        int[] some = {0, 1, -1, 306783378, -306783378};
        int[] due = {0, 7, -7, 2147483646, -2147483646};
        for (int n = 0; n < some.length; n++) {
            Periodcard x = with(7, -7, 8);
            Due.is("of " + some[n], x.ofWeeks(0, some[n]), 1);
            Due.is("text of " + some[n], x.text(0), "0y 0m " + due[n] + "d");
        }
    }

    private static void tooManyWeeks() {
        // 7 times the last four wrap round to 3, -3, -1 and 7 in 32 bits.
        for (int many : new int[] {306783379, -306783379, MAX, MIN, 1 << 30, 613566757, -613566757, 1227133513,
            MIN + 1}) {
            Kept.refuses("of " + many, with(1, 2, 3), x -> x.ofWeeks(0, many));
        }
    }

    private static void othersStay() {
        String[] due = {"0y -2m 3d", "1y 0m 3d", "1y -2m 0d"};
        for (int what = 0; what < 3; what++) {
            Periodcard x = with(1, -2, 3);
            x.change(0, what, 0);
            Due.is("change of " + what, x.text(0), due[what]);
        }
    }

    private static void changedParts() {
        String[] due = {"9y 2m 3d", "1y 9m 3d", "1y 2m 9d"};
        for (int what = 0; what < 3; what++) {
            Periodcard x = with(1, 2, 3);
            Due.is("change of " + what, x.change(0, what, 9), 1);
            Due.is("changed", x.text(0), due[what]);
            Due.is("again", x.change(0, what, 9), 0);
        }
    }

    private static void changedToAny() {
        for (int what = 0; what < 3; what++) {
            for (int number : ENDS) {
                Periodcard x = with(7, 7, 7);
                Due.is("change to " + number, x.change(0, what, number), 1);
                Due.is("changed", x.part(0, what), number);
            }
        }
    }

    private static void copyOfItself() {
        for (int n = 0; n < 4; n++) {
            Periodcard x = Kept.sample();
            Due.is("copy of itself", x.copy(n, n), 0);
            Due.is("all stays", Kept.all(x), Kept.all(Kept.sample()));
            String other = x.text((n + 1) % 4);
            Due.is("copy of another one", x.copy(n, (n + 1) % 4), 1);
            Due.is("both", x.text(n) + x.text((n + 1) % 4), other + other);
        }
    }

    private static void swapWithItself() {
        for (int n = 0; n < 4; n++) {
            Periodcard x = Kept.sample();
            Due.is("swap with itself", x.swap(n, n), 0);
            Due.is("all stays", Kept.all(x), Kept.all(Kept.sample()));
        }
    }

    private static void swapTells() {
        Periodcard x = with(1, 2, 3);
        Due.is("two that differ", x.swap(0, 1), 1);
        Due.is("swapped", x.text(0) + x.text(1), "0y 0m 0d1y 2m 3d");
        Due.is("two that differ, the other way", x.swap(0, 1), 1);
        Due.is("two that are the same", x.swap(2, 3), 0);
        x.write(2, 0, 14, 3);
        x.write(3, 1, 2, 3);
        Due.is("two that are alike alone", x.swap(2, 3), 1);
    }

    // ---- spans are reckoned

    private static void reckonedOrNot() {
        Periodcard x = with(MAX, 5, 5);
        Kept.refuses("plusYears", x, y -> y.plusYears(0, 1, false));
        Due.is("plusYears back", x.plusYears(0, -1, false), 1);
        Due.is("plusYears of 0", x.plusYears(0, 0, false), 0);
        Due.is("counted once", x.house(1), 1);
    }

    private static void anyMany() {
        for (int many : ENDS) {
            Periodcard x = new Periodcard();
            Due.is("plusYears of " + many, x.plusYears(0, many, false), many == 0 ? 0 : 1);
            Due.is("years", x.text(0), many + "y 0m 0d");
        }
    }

    /** The calls of promises 10 to 15. */
    private static int onPart(int call, Periodcard x, int many, boolean isFar) {
        switch (call) {
            case 10: return x.plusYears(0, many, isFar);
            case 11: return x.plusMonths(0, many, isFar);
            case 12: return x.plusDays(0, many, isFar);
            case 13: return x.minusYears(0, many, isFar);
            case 14: return x.minusMonths(0, many, isFar);
            default: return x.minusDays(0, many, isFar);
        }
    }

    private static void isPart(int call, int number, int many, boolean isFar) {
        int what = (call - 10) % 3;
        long more = many * (isFar ? 4000000000L : 1) * (call < 13 ? 1 : -1);
        Periodcard x = withPart(what, number);
        String name = number + " and " + many + (isFar ? " far" : "");
        if (number + more < MIN || number + more > MAX) {
            Kept.refuses(name, x, y -> onPart(call, y, many, isFar));
            return;
        }
        Due.is(name, onPart(call, x, many, isFar), many == 0 ? 0 : 1);
        Due.is(name, Kept.all(x), Kept.all(withPart(what, (int) (number + more))));
    }

    private static void partToTheEnds(int call) {
        for (int number : ENDS) {
            for (int many : ENDS) {
                isPart(call, number, many, false);
            }
        }
    }

    private static void farPart(int call) {
        // The numbers from which 4000000000 leads just to an end, and just beyond it.
        int[] numbers = {MIN, -1852516353, -1852516352, -1, 0, 1, 1852516351, 1852516352, MAX};
        // In 32 bits 2097152 times 4000000000 wraps round to 0.
        int[] some = {0, 1, -1, 2, -2, 2097152, -2097152, 1 << 30, MAX, MIN};
        for (int number : numbers) {
            for (int many : some) {
                isPart(call, number, many, true);
            }
        }
    }

    private static void plusItself() {
        Periodcard x = with(MAX / 2, -(1 << 30), -1);
        Due.is("twice", x.plus(0, 0), 1);
        Due.is("text", x.text(0), "2147483646y -2147483648m -2d");
        Due.is("0 twice", x.plus(1, 1), 0);
        for (int what = 0; what < 3; what++) {
            Kept.refuses("too great", withPart(what, 1 << 30), y -> y.plus(0, 0));
            Kept.refuses("too small", withPart(what, -(1 << 30) - 1), y -> y.plus(0, 0));
            Kept.refuses("it would wrap round to 0", withPart(what, MIN), y -> y.plus(0, 0));
        }
    }

    /** Card 0 has the first number, card 1 the second one; the others are small. */
    private static Periodcard withParts(int what, int first, int second) {
        Periodcard x = withPart(what, first);
        x.write(1, 1, 2, 3);
        x.change(1, what, second);
        return x;
    }

    private static void plusBeyond() {
        for (int what = 0; what < 3; what++) {
            Kept.refuses("beyond the greatest", withParts(what, MAX, 1), x -> x.plus(0, 1));
            Kept.refuses("the other way", withParts(what, 1, MAX), x -> x.plus(0, 1));
            Kept.refuses("below the least", withParts(what, MIN, -1), x -> x.plus(0, 1));
            Kept.refuses("twice the greatest", withParts(what, MAX, MAX), x -> x.plus(0, 1));
            Kept.refuses("twice the least", withParts(what, MIN, MIN), x -> x.plus(0, 1));
            int[][] told = {{MAX, 0, MAX}, {MAX - 1, 1, MAX}, {MIN, 0, MIN}, {MIN + 1, -1, MIN}, {MAX, MIN, -1}};
            for (int[] numbers : told) {
                Periodcard x = withParts(what, numbers[0], numbers[1]);
                Due.is("can be done", x.plus(0, 1), 1);
                Due.is("the sum", x.part(0, what), numbers[2]);
            }
        }
    }

    private static void minusItself() {
        int[][] spans = {{1, -2, 3}, {MAX, MIN, MAX}, {MIN, MAX, MIN}};
        for (int[] span : spans) {
            Periodcard x = with(span[0], span[1], span[2]);
            Due.is("less itself", x.minus(0, 0), 1);
            Due.is("nothing is left", x.isZero(0), true);
            Due.is("0 less itself", x.minus(0, 0), 0);
        }
    }

    private static void minusBeyond() {
        for (int what = 0; what < 3; what++) {
            Kept.refuses("below the least", withParts(what, MIN, 1), x -> x.minus(0, 1));
            Kept.refuses("beyond the greatest", withParts(what, MAX, -1), x -> x.minus(0, 1));
            Kept.refuses("0 less the least", withParts(what, 0, MIN), x -> x.minus(0, 1));
            Kept.refuses("the greatest less the least", withParts(what, MAX, MIN), x -> x.minus(0, 1));
            Kept.refuses("the least less the greatest", withParts(what, MIN, MAX), x -> x.minus(0, 1));
            int[][] told = {{-1, MIN, MAX}, {MIN, MIN, 0}, {MIN, 0, MIN}, {-1, MAX, MIN}, {MAX, MAX, 0}};
            for (int[] numbers : told) {
                Periodcard x = withParts(what, numbers[0], numbers[1]);
                Due.is("can be done", x.minus(0, 1), 1);
                Due.is("what is left", x.part(0, what), numbers[2]);
            }
        }
    }

    private static void isMultiplied(int what, int number, int n) {
        Periodcard x = withPart(what, number);
        String name = n + " times " + x.text(0);
        long[] due = new long[3];
        boolean isTold = true;
        for (int k = 0; k < 3; k++) {
            due[k] = (long) x.part(0, k) * n;
            isTold = isTold && due[k] >= MIN && due[k] <= MAX;
        }
        if (!isTold) {
            Kept.refuses(name, x, y -> y.multipliedBy(0, n));
            return;
        }
        Due.is(name, x.multipliedBy(0, n), n == 1 ? 0 : 1);
        Due.is(name, x.text(0), due[0] + "y " + due[1] + "m " + due[2] + "d");
    }

    private static void anyTimes() {
        for (int n : ENDS) {
            for (int what = 0; what < 3; what++) {
                for (int number : ENDS) {
                    isMultiplied(what, number, n);
                }
            }
        }
        Due.is("1, the greatest times", with(1, 0, -1).multipliedBy(0, MAX), 1);
        Due.is("1, the least times", with(1, 0, 0).multipliedBy(0, MIN), 1);
        Due.is("0, the least times", new Periodcard().multipliedBy(0, MIN), 0);
    }

    private static void multipliedBeyond() {
        // Beyond the ends by one step, and so that 32 bits would wrap round to something small.
        int[][] some = {{1 << 30, 2}, {-(1 << 30), 2}, {-(1 << 30) - 1, 2}, {1073741823, 2}, {1 << 30, -2},
            {1 << 30, 4}, {65536, 65536}, {46341, 46341}, {46340, 46341}, {715827883, 3}, {715827882, 3},
            {-715827882, 3}, {-715827883, 3}, {613566757, 7}, {MIN, -1}, {MIN, 2}, {MAX, -1}, {MAX, 2}};
        for (int[] numbers : some) {
            for (int what = 0; what < 3; what++) {
                isMultiplied(what, numbers[0], numbers[1]);
            }
        }
        Kept.refuses("-1, the least times", with(-1, 0, 0), x -> x.multipliedBy(0, MIN));
        Kept.refuses("2, the greatest times", with(0, 2, 0), x -> x.multipliedBy(0, MAX));
        Kept.refuses("the least, the least times", with(0, 0, MIN), x -> x.multipliedBy(0, MIN));
    }

    private static void negatedBeyond() {
        for (int what = 0; what < 3; what++) {
            Kept.refuses("the least", withPart(what, MIN), x -> x.negated(0));
            Periodcard x = withPart(what, MIN + 1);
            Due.is("one above it", x.negated(0), 1);
            Due.is("the greatest", x.part(0, what), MAX);
            Due.is("back", x.negated(0), 1);
            Due.is("one above the least", x.part(0, what), MIN + 1);
        }
        Due.is("0", new Periodcard().negated(0), 0);
    }

    private static void normalizedBeyond() {
        int[][] beyond = {{MAX, 12}, {MAX, MAX}, {MIN, -12}, {MIN, MIN}, {MAX - 1, 24}, {MIN + 1, -24}};
        for (int[] span : beyond) {
            Kept.refuses("beyond an end", with(span[0], span[1], 9), x -> x.normalized(0));
        }
        int[][] told = {{MAX, 11}, {MIN, -11}, {MAX - 1, 23}, {MIN + 1, -23}, {MAX, -1}, {MIN, 1}, {MAX, MIN},
            {MIN, MAX}, {0, MAX}, {0, MIN}, {0, -11}, {0, 0}, {1 << 30, 0}};
        for (int[] span : told) {
            Periodcard x = with(span[0], span[1], MIN);
            long total = 12L * span[0] + span[1];
            String due = total / 12 + "y " + total % 12 + "m -2147483648d";
            Due.is("can be done", x.normalized(0), span[0] == total / 12 ? 0 : 1);
            Due.is("tidy", x.text(0), due);
            Due.is("again", x.normalized(0), 0);
        }
    }

    // ---- the pile

    private static void laidStays() {
        Periodcard x = with(1, -2, 3);
        for (int n = 1; n <= 8; n++) {
            x.lay(0);
            Due.is("on the card", x.text(0), "1y -2m 3d");
        }
        x.lay(0);
        Due.is("on the card, refused", x.text(0), "1y -2m 3d");
    }

    private static void fullPile() {
        for (int laid = 0; laid < 8; laid++) {
            Due.is("it tells how many", laidDays(laid).lay(1), laid + 1);
        }
        Kept.refuses("a ninth", laidDays(8), x -> x.lay(0));
        Kept.refuses("a ninth from another card", laidDays(8), x -> x.lay(3));
        Periodcard x = laidDays(8);
        x.take(1);
        Due.is("there is room again", x.lay(2), 8);
        Due.is("it lies on top", x.piled(7), "0y 0m 0d");
        Kept.refuses("full again", x, y -> y.lay(2));
    }

    private static void lastFirst() {
        Periodcard x = laidDays(8);
        for (int days = 8; days >= 1; days--) {
            x.take(days % 4);
            Due.is("the last one", x.text(days % 4), "0y 0m " + days + "d");
            Due.is("it is gone", x.piled(days - 1), "");
        }
    }

    private static void emptyPile() {
        Kept.refuses("an empty pile", with(1, 2, 3), x -> x.take(0));
        Periodcard x = laidDays(8);
        for (int left = 7; left >= 0; left--) {
            Due.is("how many are left", x.take(1), left);
        }
        Kept.refuses("emptied", x, y -> y.take(1));
        Kept.refuses("still empty", x, y -> y.take(0));
        Due.is("laid again", x.lay(0), 1);
        Due.is("taken again", x.take(2), 0);
    }

    private static Periodcard laidPart(int what, int[] numbers) {
        Periodcard x = new Periodcard();
        for (int number : numbers) {
            x.write(0, 0, 0, 0);
            x.change(0, what, number);
            x.lay(0);
        }
        x.write(0, 9, 9, 9);
        return x;
    }

    private static void sumOneByOne() {
        Periodcard empty = with(1, 2, 3);
        Due.is("an empty pile", empty.sum(0), 1);
        Due.is("nothing", empty.text(0), "0y 0m 0d");
        Due.is("an empty pile again", empty.sum(0), 0);
        Due.is("a full pile", laidDays(8).sum(1), 1);
        int[][] told = {{MAX, -5, 5}, {-5, MAX, 5}, {MIN, MAX, 1}, {1 << 30, -1, 1 << 30}, {MIN, 0, 0}};
        int[] due = {MAX, MAX, 0, MAX, MIN};
        for (int what = 0; what < 3; what++) {
            for (int n = 0; n < told.length; n++) {
                Periodcard x = laidPart(what, told[n]);
                Due.is("sum " + n, x.sum(0), 1);
                Due.is("sum " + n, x.part(0, what), due[n]);
            }
        }
    }

    private static void pileStays() {
        Periodcard x = laidDays(8);
        x.sum(0);
        Due.is("the sum", x.text(0), "0y 0m 36d");
        for (int k = 0; k < 8; k++) {
            Due.is("it stays", x.piled(k), "0y 0m " + (k + 1) + "d");
        }
        Due.is("8 lie there", x.house(2), 8);
    }

    private static void sumBeyond() {
        // The sum of all could be told in most of these; a sum on the way can not.
        int[][] beyond = {{MAX, 5, -5}, {5, MAX, -5}, {MIN, -1, 1}, {1 << 30, 1 << 30, -1}, {MAX, MAX, 2},
            {MIN, MIN, 0}, {MAX, 1}};
        for (int what = 0; what < 3; what++) {
            for (int[] numbers : beyond) {
                Kept.refuses("a sum on the way", laidPart(what, numbers), x -> x.sum(0));
            }
        }
    }

    private static void piledFrom0() {
        Periodcard x = laidDays(8);
        Due.is("the first one", x.piled(0), "0y 0m 1d");
        Due.is("the second one", x.piled(1), "0y 0m 2d");
        Due.is("the eighth one", x.piled(7), "0y 0m 8d");
    }

    private static void nonePiled() {
        for (int laid = 0; laid <= 8; laid++) {
            for (int k : new int[] {-1, laid, laid + 1, 8, 9, MAX, MIN}) {
                Kept.tellsNothing("piled(" + k + ") of " + laid, laidDays(laid), x -> x.piled(k));
            }
        }
        Periodcard x = laidDays(2);
        x.take(0);
        Kept.tellsNothing("one that was taken", x, y -> y.piled(1));
    }

    // ---- what is asked of spans

    private static void textsOfNothing() {
        Kept.tellsNothing("times", with(MAX, 0, 0), x -> x.times(0, 2));
        Kept.tellsNothing("added", with(0, MAX, 0), x -> x.added(0, 2));
        Kept.tellsNothing("sum", with(0, 0, MAX), x -> x.with(0, 0, false));
        Kept.tellsNothing("difference", with(MIN, 1, 1), x -> x.with(1, 0, true));
        Kept.tellsNothing("tidy", with(MAX, 12, 0), x -> x.tidy(0));
        Kept.tellsNothing("opposite", with(0, 0, MIN), x -> x.opposite(0));
    }

    private static void parts() {
        Periodcard x = with(MIN, 0, MAX);
        Due.is("0", x.part(0, 0), MIN);
        Due.is("1", x.part(0, 1), 0);
        Due.is("2", x.part(0, 2), MAX);
    }

    private static void totalsAround0() {
        int[][] spans = {{0, 0}, {0, 1}, {0, -1}, {0, 9}, {0, 10}, {0, -9}, {0, -10}, {1, -12}, {1, -13},
            {-1, 12}, {-1, 13}, {MAX, MAX}, {MIN, MIN}, {0, MIN}, {0, MAX}, {357913941, 4}, {-357913941, -5}};
        String[] due = {"0", "1", "-1", "9", "10", "-9", "-10", "0", "-1", "0", "1", "27917287411",
            "-27917287424", "-2147483648", "2147483647", "4294967296", "-4294967297"};
        for (int n = 0; n < due.length; n++) {
            Due.is("total " + n, with(spans[n][0], spans[n][1], 3).total(0), due[n]);
        }
    }

    private static void zeroAtEach() {
        for (int n = 0; n < 4; n++) {
            Periodcard x = new Periodcard();
            for (int what = 0; what < 3; what++) {
                Due.is("all are 0", x.isZero(n), true);
                x.change(n, what, MIN);
                Due.is("one is the least", x.isZero(n), false);
                x.change(n, what, 0);
            }
        }
    }

    private static void negativeAtEach() {
        for (int n = 0; n < 4; n++) {
            Periodcard x = new Periodcard();
            for (int what = 0; what < 3; what++) {
                Due.is("none is below 0", x.isNegative(n), false);
                x.change(n, what, -1);
                Due.is("one is below 0", x.isNegative(n), true);
                x.change(n, what, MAX);
            }
        }
    }

    private static Periodcard withTwo(int[] first, int[] second) {
        Periodcard x = with(first[0], first[1], first[2]);
        x.write(3, second[0], second[1], second[2]);
        return x;
    }

    private static void sameAtEnds() {
        int[] ends = {MIN, MAX, MIN};
        Due.is("ends", withTwo(ends, ends).areSame(0, 3), true);
        for (int[] other : new int[][] {{MAX, MAX, MIN}, {MIN, MIN, MIN}, {MIN, MAX, MAX}, {MIN, MAX, MIN + 1}}) {
            Due.is("other ends", withTwo(ends, other).areSame(0, 3), false);
        }
        for (int n = 0; n < 4; n++) {
            Due.is("a card and itself", Kept.sample().areSame(n, n), true);
        }
    }

    private static void alikeAtEnds() {
        int[] ends = {MAX, MIN, MAX};
        int[] tidy = {1968526676, 4, MAX};
        Due.is("ends", withTwo(ends, tidy).areAlike(0, 3), true);
        Due.is("a month more", withTwo(ends, new int[] {1968526676, 5, MAX}).areAlike(0, 3), false);
        Due.is("a day less", withTwo(ends, new int[] {1968526676, 4, MAX - 1}).areAlike(0, 3), false);
        Due.is("2 to the 32 months more", withTwo(new int[] {357913941, 4, 0}, new int[3]).areAlike(0, 3), false);
        for (int n = 0; n < 4; n++) {
            Due.is("a card and itself", Kept.sample().areAlike(n, n), true);
        }
    }

    private static void textAtEnds() {
        for (int number : ENDS) {
            Due.is("text", with(number, 0, -1).text(0), number + "y 0m -1d");
            Due.is("text", with(0, number, -1).text(0), "0y " + number + "m -1d");
            Due.is("text", with(0, -1, number).text(0), "0y -1m " + number + "d");
        }
    }

    private static void timesAny() {
        for (int n : ENDS) {
            Due.is(n + " times 0", new Periodcard().times(0, n), "0y 0m 0d");
            Due.is(n + " times 1", with(1, 0, 1).times(0, n), n + "y 0m " + n + "d");
            Due.is(n + " times -1", with(0, -1, 0).times(0, n), n == MIN ? "" : "0y " + -n + "m 0d");
        }
    }

    private static void timesBeyond() {
        int[][] beyond = {{1 << 30, 2}, {-(1 << 30) - 1, 2}, {1 << 30, 4}, {65536, 65536}, {MIN, -1}, {MIN, MIN},
            {MAX, MAX}, {MAX, MIN}, {2, MAX}, {-1, MIN}};
        for (int[] numbers : beyond) {
            for (int what = 0; what < 3; what++) {
                Kept.tellsNothing("times", withPart(what, numbers[0]), x -> x.times(0, numbers[1]));
            }
        }
        Due.is("to the least", with(-(1 << 30), 0, 0).times(0, 2), "-2147483648y 0m 0d");
        Due.is("the least, once", with(0, MIN, 0).times(0, 1), "0y -2147483648m 0d");
        Due.is("the greatest, -1 times", with(0, 0, MAX).times(0, -1), "0y 0m -2147483647d");
    }

    private static void addedBeyond() {
        Due.is("0 times", with(MIN, MAX, MIN).added(0, 0), "0y 0m 0d");
        Due.is("once", with(MIN, MAX, MIN).added(0, 1), "-2147483648y 2147483647m -2147483648d");
        Due.is("9 times", with(238609294, -238609294, 1).added(0, 9), "2147483646y -2147483646m 9d");
        for (int what = 0; what < 3; what++) {
            Kept.tellsNothing("9 times", withPart(what, 238609295), x -> x.added(0, 9));
            Kept.tellsNothing("9 times", withPart(what, -238609295), x -> x.added(0, 9));
            Kept.tellsNothing("twice the least", withPart(what, MIN), x -> x.added(0, 2));
            Kept.tellsNothing("4 times would wrap round to 0", withPart(what, 1 << 30), x -> x.added(0, 4));
        }
    }

    private static void withItself() {
        Due.is("the sum with itself", with(1, -2, 3).with(0, 0, false), "2y -4m 6d");
        Due.is("less itself", with(MIN, MAX, MIN).with(0, 0, true), "0y 0m 0d");
        Due.is("the first less the second", with(1, -2, 3).with(1, 0, true), "-1y 2m -3d");
    }

    private static void withBeyond() {
        for (int what = 0; what < 3; what++) {
            Kept.tellsNothing("sum", withParts(what, MAX, 1), x -> x.with(0, 1, false));
            Kept.tellsNothing("sum", withParts(what, -1, MIN), x -> x.with(0, 1, false));
            Kept.tellsNothing("sum", withParts(what, MIN, MIN), x -> x.with(0, 1, false));
            Kept.tellsNothing("difference", withParts(what, MIN, 1), x -> x.with(0, 1, true));
            Kept.tellsNothing("difference", withParts(what, 0, MIN), x -> x.with(0, 1, true));
            Kept.tellsNothing("difference", withParts(what, MAX, -1), x -> x.with(0, 1, true));
        }
        Due.is("to the greatest", with(MAX - 1, MAX, -1).with(0, 1, false), "2147483646y 2147483647m -1d");
        Due.is("-1 less the least", withParts(0, -1, MIN).with(0, 1, true), "2147483647y 4m 4d");
    }

    private static void tidyBeyond() {
        for (int[] span : new int[][] {{MAX, 12}, {MIN, -12}, {MAX, MAX}, {MIN, MIN}}) {
            Kept.tellsNothing("beyond an end", with(span[0], span[1], 9), x -> x.tidy(0));
        }
        Due.is("the greatest", with(MAX, 11, MAX).tidy(0), "2147483647y 11m 2147483647d");
        Due.is("the least", with(MIN, -11, MIN).tidy(0), "-2147483648y -11m -2147483648d");
        Due.is("towards 0 from below", with(0, -11, 0).tidy(0), "0y -11m 0d");
        Due.is("0", with(1, -12, 0).tidy(0), "0y 0m 0d");
    }

    private static void oppositeBeyond() {
        for (int what = 0; what < 3; what++) {
            Kept.tellsNothing("of the least", withPart(what, MIN), x -> x.opposite(0));
        }
        Due.is("of one above it", with(MIN + 1, 0, MAX).opposite(0), "2147483647y 0m -2147483647d");
        Due.is("of 0", new Periodcard().opposite(0), "0y 0m 0d");
    }
}
