import java.math.BigInteger;
import java.time.LocalDate;

/** The edges in what stands ahead of the promises: What it is, Description, 1. Spans, 2. Dates. */
public final class RuleEdgeTest {
    private static final int MAX = Integer.MAX_VALUE;
    private static final int MIN = Integer.MIN_VALUE;
    private static final int REFUSED = -9;
    private static final int[] LENGTHS = {31, 28, 31, 30, 31, 30, 31, 31, 30, 31, 30, 31};

    public static void main(String[] args) {
        Edges edges = new Edges(args);
        description(edges);
        spans(edges);
        dates(edges);
        spanBetween(edges);
        edges.allOf("What it is");
        edges.allOf("Description");
        edges.allOf("1. Spans");
        edges.allOf("2. Dates");
        Due.end("RuleEdgeTest");
    }

    private static void description(Edges edges) {
        String place = "What it is";
        edges.none(place, "Cards with spans of years, months and days, that are added, taken,");
        edges.at(place, "An object is used for at most 512 calls after it has been made;", RuleEdgeTest::lastCall);
        place = "Description";
        edges.none(place, "Whole numbers.");
        edges.at(place, "REFUSED is -9: it is told where an act can not be done; nothing changes then, but that it"
            + " is counted", RuleEdgeTest::refusals);
        edges.at(place, "(exceptions go ahead of it)", RuleEdgeTest::exceptionsGoAhead);
        edges.at(place, "a number is the rounded one times the divisor, and what is left, which has the sign of the"
            + " number, or is 0.", RuleEdgeTest::rounding);
        edges.at(place, "A number CAN BE TOLD, if it lies from -2147483648 to 2147483647.", RuleEdgeTest::ends);
        edges.at(place, "A method that throws an exception changes nothing.", RuleEdgeTest::exceptions);
        edges.at(place, "If several exceptions apply, the one that is named first is thrown.",
            RuleEdgeTest::severalExceptions);
    }

    private static void spans(Edges edges) {
        String place = "1. Spans";
        edges.at(place, "CARDS 0 to 3.", () -> Kept.oneOfFour((x, n) -> x.text(n)));
        edges.at(place, "each of which CAN BE TOLD (all 0 at first).", RuleEdgeTest::numbersOfSpan);
        edges.at(place, "None of them is carried into another one", RuleEdgeTest::noneIsCarried);
        edges.at(place, "(a true number, however great)", RuleEdgeTest::greatTotals);
        edges.at(place, "It is ZERO, if all three numbers are 0;", RuleEdgeTest::zero);
        edges.at(place, "NEGATIVE, if one of them at least is below 0.", RuleEdgeTest::negative);
        edges.at(place, "Two SPANS are the SAME, if all three numbers are;", RuleEdgeTest::same);
        edges.at(place, "ALIKE, if their TOTALS are the same, and their DAYS are.", RuleEdgeTest::alike);
        edges.at(place, "Sum of two SPANS: the sums of their YEARS, of their MONTHS, and of their DAYS.",
            RuleEdgeTest::sums);
        edges.at(place, "Difference: likewise what is left of each of the first one's, as that of the second one is"
            + " taken.", RuleEdgeTest::differences);
        edges.at(place, "n times a SPAN: n times each.", RuleEdgeTest::products);
        edges.at(place, "Opposite: each with the other sign (0 stays).", RuleEdgeTest::opposites);
        edges.at(place, "TIDY: YEARS are TOTAL / 12, rounded towards 0, MONTHS what is left, DAYS stay.",
            RuleEdgeTest::tidyOnes);
        edges.at(place, "What would have a number that can not be told can not be done.",
            RuleEdgeTest::notToldNotDone);
        edges.at(place, "As a text a SPAN is \"Yy Mm Dd\"", RuleEdgeTest::spanTexts);
        edges.at(place, "at most 8 (none at first).", RuleEdgeTest::pileOfEight);
        edges.at(place, "They stay as they were laid, whatever becomes of the CARD.", RuleEdgeTest::laidOnesStay);
        edges.at(place, "An act at a CARD tells 1, if the SPAN there is not the SAME as ahead of it, otherwise 0.",
            RuleEdgeTest::actsAtCards);
    }

    private static void dates(Edges edges) {
        String place = "2. Dates";
        edges.at(place, "DATES 0 to 3,", () -> Kept.oneOfFour((x, n) -> x.dateText(n)));
        edges.at(place, "from 1 January 1600 to 31 December 2400", RuleEdgeTest::endsOfCalendar);
        edges.at(place, "(at first 1 January 2000)", RuleEdgeTest::firstDates);
        edges.at(place, "Years that can be divided by 4 are long ones, but those that can be divided by 100 only if"
            + " by 400, too.", RuleEdgeTest::longYears);
        edges.at(place, "Months have 31, 28 (29 in a long year), 31, 30, 31, 30, 31, 31, 30, 31, 30 and 31 days.",
            RuleEdgeTest::lengthsOfMonths);
        edges.at(place, "how many days it lies behind 1 January 1970 (below 0, if ahead).", RuleEdgeTest::numbers);
        edges.at(place, "As a text a DATE is its year, its month and its day with \"-\" between:",
            RuleEdgeTest::dateTexts);
        edges.at(place, "One DATE is first, or last, of two, as its NUMBER is the lesser one, or the greater one.",
            RuleEdgeTest::firstAndLast);
        edges.at(place, "keeps its day of the month, or has the last one of that month, if that has not so many;",
            RuleEdgeTest::monthsOn);
        edges.at(place, "the year there has to be from 1600 to 2400.", RuleEdgeTest::monthsToTheEnds);
        edges.at(place, "by its TOTAL of months on, then by its DAYS on", RuleEdgeTest::monthsThenDays);
        edges.at(place, "by as many months on as its TOTAL with the other sign, then by its DAYS with the other sign"
            + " on.", RuleEdgeTest::monthsThenDaysBack);
        edges.at(place, "Both can not be done, if the month on the way,", RuleEdgeTest::monthOnTheWay);
        edges.at(place, "or the DATE at the end, is not in the years 1600 to 2400.", RuleEdgeTest::dateAtTheEnd);
        edges.at(place, "An act at a DATE tells 1, if it is another one then, otherwise 0.",
            RuleEdgeTest::actsAtDates);
        edges.none(place, "The constructor and the methods follow, a promise each:");
    }

    private static void spanBetween(Edges edges) {
        String place = "2. Dates";
        edges.none(place, "The SPAN BETWEEN a DATE a and a DATE b.");
        edges.at(place, "W is by how many months the month of b lies behind that of a (below 0: ahead).",
            RuleEdgeTest::monthsBetween);
        edges.at(place, "W counts one less, if the day of the month of b is less than that of a",
            RuleEdgeTest::lastMonthNotWhole);
        edges.at(place, "it is told only if the day of the month of a is not above 28;", RuleEdgeTest::toldUpTo28);
        edges.at(place, "W counts one more, if the day of the month of b is greater than that of a, and W is below"
            + " 0.", RuleEdgeTest::lastMonthNotWholeBack);
        edges.at(place, "YEARS are W / 12, rounded towards 0, MONTHS what is left,", RuleEdgeTest::yearsBetween);
        edges.at(place, "DAYS the NUMBER of b less the NUMBER of a moved by W months on.", RuleEdgeTest::daysBetween);
    }

    // ---- Description

    private static void lastCall() {
        Periodcard x = new Periodcard();
        for (int n = 1; n <= 512; n++) {
            Due.is("call " + n, x.knock(), n);
        }
        Periodcard y = new Periodcard();
        for (int n = 1; n < 512; n++) {
            Due.is("refused " + n, y.take(0), REFUSED);
        }
        Due.is("call 512", y.house(1), 511);
    }

    /** A full or an empty pile, and spans that nothing can be added to or taken from. */
    private static Periodcard atTheEnds(int laid) {
        Periodcard x = new Periodcard();
        x.write(0, MAX, MAX, MAX);
        x.write(1, MIN, MIN, MIN);
        x.write(2, 1, 1, 1);
        for (int k = 0; k < laid; k++) {
            x.lay(0);
        }
        x.date(0, 2024, 3, 31);
        return x;
    }

    private static Kept.ActAtOne[] actsThatCanBeRefused() {
        return new Kept.ActAtOne[] {(x, more) -> x.ofWeeks(more, MAX), (x, more) -> x.plusYears(more, 1, false),
            (x, more) -> x.plusMonths(more, 1, false), (x, more) -> x.plusDays(more, 1, false),
            (x, more) -> x.minusYears(more, -1, false), (x, more) -> x.minusMonths(more, -1, false),
            (x, more) -> x.minusDays(more, -1, false), (x, more) -> x.plus(more, 2),
            (x, more) -> x.minus(more, 1), (x, more) -> x.multipliedBy(more, 2),
            (x, more) -> x.normalized(more), (x, more) -> x.lay(more),
            (x, more) -> x.sum(more), (x, more) -> x.move(0, more), (x, more) -> x.back(0, more),
            (x, more) -> x.between(more, 0, 1), (x, more) -> x.until(more, 0, 1)};
    }

    private static void refusals() {
        Kept.ActAtOne[] acts = actsThatCanBeRefused();
        for (int n = 0; n < acts.length; n++) {
            Kept.ActAtOne act = acts[n];
            Kept.refuses("act " + n, atTheEnds(8), x -> act.of(x, 0));
        }
        Kept.refuses("negated(1)", atTheEnds(8), x -> x.negated(1));
        Kept.refuses("take(0)", atTheEnds(0), x -> x.take(0));
    }

    private static void exceptionsGoAhead() {
        for (Kept.ActAtOne act : actsThatCanBeRefused()) {
            Kept.throwsIndex("an act at card 4", atTheEnds(8), x -> act.of(x, 4));
            Kept.throwsIndex("an act at card -1", atTheEnds(8), x -> act.of(x, -1));
        }
        Kept.throwsIndex("negated(4)", atTheEnds(8), x -> x.negated(4));
        Kept.throwsIndex("take(4)", atTheEnds(0), x -> x.take(4));
        Kept.throwsIndex("plus(0, 4)", atTheEnds(8), x -> x.plus(0, 4));
        Kept.throwsIndex("minus(0, 4)", atTheEnds(8), x -> x.minus(0, 4));
        Kept.throwsIndex("move(4, 0)", atTheEnds(8), x -> x.move(4, 0));
        Kept.throwsIndex("back(4, 0)", atTheEnds(8), x -> x.back(4, 0));
        Kept.throwsIndex("between(0, 0, 4)", atTheEnds(8), x -> x.between(0, 0, 4));
        Kept.throwsIndex("until(0, 0, 4)", atTheEnds(8), x -> x.until(0, 0, 4));
    }

    private static void rounding() {
        Periodcard x = new Periodcard();
        for (int number = -37; number <= 37; number++) {
            x.write(0, 0, number, 0);
            x.normalized(0);
            int left = x.part(0, 1);
            Due.is("rounded and left of " + number, x.part(0, 0) * 12 + left, number);
            Due.is("what is left of " + number, Math.abs(left) < 12 && left * number >= 0, true);
        }
    }

    private static int plus(Periodcard x, int what, int many) {
        return what == 0 ? x.plusYears(0, many, false) : what == 1 ? x.plusMonths(0, many, false)
            : x.plusDays(0, many, false);
    }

    private static void ends() {
        for (int what = 0; what < 3; what++) {
            int at = what;
            Periodcard x = new Periodcard();
            x.change(0, at, MAX - 1);
            Due.is("to the greatest", plus(x, at, 1), 1);
            Due.is("the greatest", x.part(0, at), 2147483647);
            Kept.refuses("beyond the greatest", x, y -> plus(y, at, 1));
            x.change(0, at, MIN + 1);
            Due.is("to the least", plus(x, at, -1), 1);
            Due.is("the least", x.part(0, at), -2147483648);
            Kept.refuses("below the least", x, y -> plus(y, at, -1));
        }
    }

    private static void exceptions() {
        Kept.Act[] ofIndex = {x -> x.write(4, 1, 1, 1), x -> x.copy(0, 4), x -> x.swap(0, 4), x -> x.swap(4, 0),
            x -> x.plus(0, 4), x -> x.minus(0, 4), x -> x.lay(4), x -> x.take(4), x -> x.sum(4),
            x -> x.date(4, 2024, 1, 1), x -> x.copyDate(0, 4), x -> x.move(0, 4), x -> x.back(0, 4),
            x -> x.walk(0, 4, 1), x -> x.between(0, 0, 4), x -> x.until(0, 4, 0)};
        for (int n = 0; n < ofIndex.length; n++) {
            Kept.throwsIndex("call " + n, Kept.sample(), ofIndex[n]);
        }
        Kept.Act[] ofArgument = {x -> x.change(0, 3, 5), x -> x.part(0, 3), x -> x.added(0, 10),
            x -> x.date(0, 2023, 2, 29), x -> x.walk(0, 0, 0), x -> x.walk(0, 0, 13), x -> x.ofDate(0, 4),
            x -> x.house(5)};
        for (int n = 0; n < ofArgument.length; n++) {
            Kept.throwsArgument("call " + n, Kept.sample(), ofArgument[n]);
        }
    }

    private static void severalExceptions() {
        for (int n : Kept.NOT_THERE) {
            Kept.throwsIndex("change", Kept.sample(), x -> x.change(n, 3, 5));
            Kept.throwsIndex("part", Kept.sample(), x -> x.part(n, -1));
            Kept.throwsIndex("added", Kept.sample(), x -> x.added(n, 10));
            Kept.throwsIndex("date", Kept.sample(), x -> x.date(n, 1599, 13, 0));
            Kept.throwsIndex("walk", Kept.sample(), x -> x.walk(n, 0, 0));
            Kept.throwsIndex("walk", Kept.sample(), x -> x.walk(0, n, 13));
            Kept.throwsIndex("ofDate", Kept.sample(), x -> x.ofDate(n, 4));
        }
    }

    // ---- Spans

    private static Periodcard with(int years, int months, int days) {
        Periodcard x = new Periodcard();
        x.write(0, years, months, days);
        return x;
    }

    private static Periodcard withTwo(int[] first, int[] second) {
        Periodcard x = with(first[0], first[1], first[2]);
        x.write(1, second[0], second[1], second[2]);
        return x;
    }

    /** A span of which one number alone is not 0. */
    private static int[] only(int what, int number) {
        int[] span = new int[3];
        span[what] = number;
        return span;
    }

    private static void numbersOfSpan() {
        Periodcard x = new Periodcard();
        for (int n = 0; n < 4; n++) {
            for (int what = 0; what < 3; what++) {
                Due.is("at first", x.part(n, what), 0);
                x.change(n, what, MAX);
                Due.is("the greatest", x.part(n, what), MAX);
                x.change(n, what, MIN);
                Due.is("the least", x.part(n, what), MIN);
            }
        }
    }

    private static void noneIsCarried() {
        Periodcard x = withTwo(new int[] {0, 14, 0}, new int[] {1, 2, 0});
        Due.is("0 years and 14 months, 1 year and 2 months", x.areSame(0, 1), false);
        x.plusMonths(0, 12, false);
        x.plusDays(0, 400, false);
        Due.is("many months and days", x.text(0), "0y 26m 400d");
        Due.is("their sum", x.with(0, 0, false), "0y 52m 800d");
        Due.is("12 times", x.times(0, 12), "0y 312m 4800d");
        Due.is("added", x.added(0, 9), "0y 234m 3600d");
        Due.is("opposite", x.opposite(0), "0y -26m -400d");
        x.lay(0);
        x.sum(2);
        Due.is("sum of the pile", x.text(2), "0y 26m 400d");
    }

    private static void greatTotals() {
        int[] some = {MIN, MIN + 1, -(1 << 30), -12, -1, 0, 1, 12, 357913942, 1 << 30, MAX - 1, MAX};
        for (int years : some) {
            for (int months : some) {
                BigInteger due = BigInteger.valueOf(years).multiply(BigInteger.valueOf(12));
                due = due.add(BigInteger.valueOf(months));
                Due.is("total of " + years + ", " + months, with(years, months, 0).total(0), due.toString());
            }
        }
        Due.is("12 times 2 to the 30 is not 0", with(1 << 30, 0, 0).areAlike(0, 1), false);
        Due.is("2 to the 32 more", withTwo(new int[] {357913942, -4, 0}, only(1, 4)).areAlike(0, 1), false);
    }

    private static void zero() {
        Due.is("all are 0", new Periodcard().isZero(0), true);
        for (int what = 0; what < 3; what++) {
            for (int number : new int[] {1, -1, MAX, MIN}) {
                int[] span = only(what, number);
                Due.is("one is not 0", with(span[0], span[1], span[2]).isZero(0), false);
                Due.is("another one is 0", with(span[0], span[1], span[2]).isZero(1), true);
            }
        }
        Due.is("a total of 0", with(1, -12, 0).isZero(0), false);
        Due.is("numbers that cancel out", with(1, -2, 1).isZero(0), false);
        Due.is("numbers that wrap round to 0", with(MIN, MIN, 0).isZero(0), false);
    }

    private static void negative() {
        Due.is("all are 0", new Periodcard().isNegative(0), false);
        Due.is("all are the greatest", with(MAX, MAX, MAX).isNegative(0), false);
        for (int number : new int[] {-1, MIN}) {
            Due.is("years alone", with(number, MAX, MAX).isNegative(0), true);
            Due.is("months alone", with(MAX, number, MAX).isNegative(0), true);
            Due.is("days alone", with(MAX, MAX, number).isNegative(0), true);
        }
        Due.is("a total of 0", with(1, -12, 0).isNegative(0), true);
        Due.is("all are below 0", with(MIN, MIN, MIN).isNegative(0), true);
    }

    private static void same() {
        int[] span = {1, 2, 3};
        Due.is("all three", withTwo(span, span).areSame(0, 1), true);
        int[][] others = {{2, 2, 3}, {1, 3, 3}, {1, 2, 4}, {1, 3, 2}, {2, 1, 3}, {0, 14, 3}, {-1, -2, -3}};
        for (int[] other : others) {
            Due.is("not all three", withTwo(span, other).areSame(0, 1), false);
            Due.is("the other way", withTwo(other, span).areSame(0, 1), false);
        }
    }

    private static void alike() {
        int[] span = {1, 2, 3};
        int[][] alike = {{1, 2, 3}, {0, 14, 3}, {2, -10, 3}, {-178956969, 2147483642, 3}};
        for (int[] other : alike) {
            Due.is("total and days", withTwo(span, other).areAlike(0, 1), true);
            Due.is("the other way", withTwo(other, span).areAlike(0, 1), true);
        }
        int[][] others = {{0, 14, 4}, {1, 2, -3}, {1, 3, 3}, {2, 2, 3}, {0, 13, 3}, {0, 2, 3}};
        for (int[] other : others) {
            Due.is("not total and days", withTwo(span, other).areAlike(0, 1), false);
            Due.is("the other way", withTwo(other, span).areAlike(0, 1), false);
        }
    }

    private static void sums() {
        int[] ends = {MAX, MIN, -1};
        Due.is("of ends", withTwo(ends, new int[] {MIN, MAX, MIN + 1}).with(0, 1, false), "-1y -1m -2147483648d");
        Due.is("of the greatest and 0", withTwo(ends, only(1, MAX)).with(0, 1, false), "2147483647y -1m -1d");
        Due.is("of each", withTwo(new int[] {1, 2, 3}, new int[] {10, 20, 30}).with(0, 1, false), "11y 22m 33d");
    }

    private static void differences() {
        int[] ends = {MAX, MIN, -1};
        Due.is("of ends", withTwo(ends, new int[] {MAX, MIN, MIN}).with(0, 1, true), "0y 0m 2147483647d");
        Due.is("the first less the second", withTwo(new int[] {1, 2, 3}, new int[] {10, 20, 30}).with(0, 1, true),
            "-9y -18m -27d");
    }

    private static void products() {
        Periodcard x = with(1, -1, 0);
        Due.is("the least times", x.times(0, MIN), "");
        Due.is("the greatest times", x.times(0, MAX), "2147483647y -2147483647m 0d");
        Due.is("0 times", x.times(0, 0), "0y 0m 0d");
        Due.is("-1 times", x.times(0, -1), "-1y 1m 0d");
        Due.is("the least once", with(MIN, 0, MIN).times(0, 1), "-2147483648y 0m -2147483648d");
        Due.is("1, the least times", with(1, 0, 1).times(0, MIN), "-2147483648y 0m -2147483648d");
    }

    private static void opposites() {
        Due.is("0 stays", new Periodcard().opposite(0), "0y 0m 0d");
        Due.is("the greatest", with(MAX, 0, 1).opposite(0), "-2147483647y 0m -1d");
        Due.is("one above the least", with(MIN + 1, 0, -1).opposite(0), "2147483647y 0m 1d");
        Due.is("the least", with(MIN, 0, 0).opposite(0), "");
    }

    private static void tidyOnes() {
        int[][] spans = {{0, 11, 5}, {0, 12, 5}, {0, -11, 5}, {0, -12, 5}, {0, -13, 5}, {1, -1, 0}, {-1, 1, 0},
            {-1, 13, 0}, {1, -13, 0}, {0, 0, 400}, {0, MAX, MAX}, {0, MIN, MIN}, {MIN, MAX, 0}, {MAX, MIN, 0}};
        String[] due = {"0y 11m 5d", "1y 0m 5d", "0y -11m 5d", "-1y 0m 5d", "-1y -1m 5d", "0y 11m 0d", "0y -11m 0d",
            "0y 1m 0d", "0y -1m 0d", "0y 0m 400d", "178956970y 7m 2147483647d", "-178956970y -8m -2147483648d",
            "-1968526677y -5m 0d", "1968526676y 4m 0d"};
        for (int n = 0; n < due.length; n++) {
            Due.is("tidy " + n, with(spans[n][0], spans[n][1], spans[n][2]).tidy(0), due[n]);
        }
    }

    private static void notToldNotDone() {
        for (int what = 0; what < 3; what++) {
            Periodcard greatest = withTwo(only(what, MAX), only(what, 1));
            Kept.refuses("plus", greatest, x -> x.plus(0, 1));
            Kept.tellsNothing("sum", greatest, x -> x.with(0, 1, false));
            Kept.refuses("multipliedBy", greatest, x -> x.multipliedBy(0, 2));
            Kept.tellsNothing("times", greatest, x -> x.times(0, 2));
            Periodcard least = withTwo(only(what, MIN), only(what, 1));
            Kept.refuses("minus", least, x -> x.minus(0, 1));
            Kept.tellsNothing("difference", least, x -> x.with(0, 1, true));
            Kept.refuses("negated", least, x -> x.negated(0));
            Kept.tellsNothing("opposite", least, x -> x.opposite(0));
        }
        for (int[] span : new int[][] {{MAX, 12, 3}, {MIN, -12, 3}, {MAX, MAX, 0}, {MIN, MIN, 0}}) {
            Kept.refuses("normalized", with(span[0], span[1], span[2]), x -> x.normalized(0));
            Kept.tellsNothing("tidy", with(span[0], span[1], span[2]), x -> x.tidy(0));
        }
    }

    private static void spanTexts() {
        Due.is("the document's", with(0, 14, -3).text(0), "0y 14m -3d");
        Due.is("0", new Periodcard().text(0), "0y 0m 0d");
        Due.is("ends", with(MAX, MIN, MAX).text(0), "2147483647y -2147483648m 2147483647d");
        Due.is("other ends", with(MIN, MAX, MIN).text(0), "-2147483648y 2147483647m -2147483648d");
    }

    private static void pileOfEight() {
        Periodcard x = new Periodcard();
        Due.is("none at first", x.house(2) + x.piled(0), "0");
        for (int n = 1; n <= 8; n++) {
            x.ofDays(0, n);
            Due.is("laid", x.lay(0), n);
        }
        Kept.refuses("a ninth", x, y -> y.lay(0));
        Due.is("the eighth", x.piled(7), "0y 0m 8d");
    }

    private static void laidOnesStay() {
        Periodcard x = with(1, 2, 3);
        x.lay(0);
        x.lay(0);
        x.write(0, 9, 9, 9);
        x.plus(0, 0);
        x.negated(0);
        x.swap(0, 1);
        Due.is("the card becomes another one", x.piled(0) + x.piled(1), "1y 2m 3d1y 2m 3d");
        x.take(2);
        x.change(2, 0, 7);
        Due.is("it was taken to another card", x.piled(0), "1y 2m 3d");
        x.lay(2);
        x.sum(2);
        x.normalized(2);
        Due.is("their sum is on the card", x.piled(0) + x.piled(1), "1y 2m 3d7y 2m 3d");
    }

    private static void actsAtCards() {
        Kept.ActAtOne[] acts = {(x, n) -> x.write(n, 1, 14, -3), (x, n) -> x.ofYears(n, 0),
            (x, n) -> x.ofMonths(n, 0), (x, n) -> x.ofWeeks(n, 0), (x, n) -> x.ofDays(n, 0),
            (x, n) -> x.change(n, 0, 1), (x, n) -> x.change(n, 1, 14), (x, n) -> x.change(n, 2, -3),
            (x, n) -> x.copy(n, 0), (x, n) -> x.swap(n, 0), (x, n) -> x.plusYears(n, n, false),
            (x, n) -> x.plusMonths(n, n, false), (x, n) -> x.plusDays(n, n, false),
            (x, n) -> x.minusYears(n, n, false), (x, n) -> x.minusMonths(n, n, false),
            (x, n) -> x.minusDays(n, n, false), (x, n) -> x.plus(n, 2), (x, n) -> x.minus(n, 2),
            (x, n) -> x.multipliedBy(n, 2), (x, n) -> x.negated(n), (x, n) -> x.normalized(n),
            (x, n) -> x.sum(n), (x, n) -> x.between(n, 1, 0), (x, n) -> x.until(n, 1, 0)};
        for (int k = 0; k < acts.length; k++) {
            String seen = "";
            for (int n = 0; n < 8; n++) {
                Periodcard x = n < 4 ? Kept.sample() : new Periodcard();
                String before = x.text(n % 4);
                Object answer = acts[k].of(x, n % 4);
                Due.is("act " + k + " at card " + n % 4, answer, before.equals(x.text(n % 4)) ? 0 : 1);
                seen += answer;
            }
            Due.is("act " + k + " tells both", seen.contains("0") && seen.contains("1"), true);
        }
    }

    // ---- Dates

    private static Periodcard on(int year, int month, int day) {
        Periodcard x = new Periodcard();
        x.date(0, year, month, day);
        return x;
    }

    private static Periodcard on(LocalDate day) {
        return on(day.getYear(), day.getMonthValue(), day.getDayOfMonth());
    }

    private static String text(LocalDate day) {
        return day.getYear() + "-" + day.getMonthValue() + "-" + day.getDayOfMonth();
    }

    /** What the date comes to by a span; both as an act and as a text. */
    private static void moves(String due, LocalDate day, int[] span, boolean isBack) {
        Periodcard x = on(day);
        x.write(1, span[0], span[1], span[2]);
        String call = day + (isBack ? " back by " : " by ") + x.text(1);
        Due.is(call, x.moved(0, 1, isBack), due);
        Kept.Act act = y -> isBack ? y.back(0, 1) : y.move(0, 1);
        if (due.isEmpty()) {
            Kept.refuses(call, x, act);
            return;
        }
        Due.is(call, act.of(x), due.equals(text(day)) ? 0 : 1);
        Due.is(call, x.dateText(0), due);
    }

    private static void movesFrom(String[] due, LocalDate[] days, int[][] spans, boolean isBack) {
        for (int n = 0; n < due.length; n++) {
            moves(due[n], days[n], spans[n], isBack);
        }
    }

    private static LocalDate day(int year, int month, int day) {
        return LocalDate.of(year, month, day);
    }

    private static void endsOfCalendar() {
        Due.is("the first day", on(1600, 1, 1).dateText(0), "1600-1-1");
        Due.is("the last day", on(2400, 12, 31).dateText(0), "2400-12-31");
        Kept.throwsArgument("ahead of the first", Kept.sample(), x -> x.date(0, 1599, 12, 31));
        Kept.throwsArgument("behind the last", Kept.sample(), x -> x.date(0, 2401, 1, 1));
        moves("", day(1600, 1, 1), only(2, -1), false);
        moves("", day(2400, 12, 31), only(2, 1), false);
        moves("", day(1600, 1, 1), only(2, 1), true);
        moves("", day(2400, 12, 31), only(2, -1), true);
        moves("2400-12-31", day(1600, 1, 1), only(2, 292559), false);
        moves("1600-1-1", day(2400, 12, 31), only(2, 292559), true);
    }

    private static void firstDates() {
        Periodcard x = new Periodcard();
        for (int n = 0; n < 4; n++) {
            Due.is("date " + n, x.dateText(n), "2000-1-1");
            Due.is("NUMBER of date " + n, x.ofDate(n, 3), 10957);
        }
    }

    private static boolean isLong(int year) {
        return year % 400 == 0 || year % 4 == 0 && year % 100 != 0;
    }

    private static void longYears() {
        for (int year = 1600; year <= 2400; year++) {
            int that = year;
            Periodcard x = on(year, 2, 28);
            if (isLong(year)) {
                Due.is("29 February " + year, x.date(0, year, 2, 29), 1);
            } else {
                Due.throwsArgument("29 February " + year, () -> x.date(0, that, 2, 29));
            }
            x.ofDays(0, 1);
            x.move(0, 0);
            Due.is("behind the last of February " + year, x.dateText(0), year + "-3-1");
        }
    }

    private static void lengthsOfMonths() {
        for (int year : new int[] {1600, 1700, 1900, 2000, 2023, 2024, 2400}) {
            for (int month = 1; month <= 12; month++) {
                int last = LENGTHS[month - 1] + (month == 2 && isLong(year) ? 1 : 0);
                int that = month;
                Periodcard x = on(year, month, last);
                Due.is("the last day", x.dateText(0), year + "-" + month + "-" + last);
                Due.throwsArgument("a day more", () -> x.date(0, year, that, last + 1));
                Due.throwsArgument("day 0", () -> x.date(0, year, that, 0));
                x.ofDays(0, 1);
                Due.is("from the last day on", x.moved(0, 0, false), year == 2400 && month == 12 ? ""
                    : month == 12 ? (year + 1) + "-1-1" : year + "-" + (month + 1) + "-1");
            }
        }
    }

    private static void numbers() {
        LocalDate[] days = {day(1970, 1, 1), day(1970, 1, 2), day(1969, 12, 31), day(1600, 1, 1), day(2400, 12, 31),
            day(2000, 2, 29), day(2000, 3, 1), day(1900, 2, 28), day(1900, 3, 1), day(1700, 3, 1), day(2100, 3, 1)};
        for (LocalDate each : days) {
            Due.is("NUMBER of " + each, (long) on(each).ofDate(0, 3), each.toEpochDay());
        }
        Due.is("1 January 1970", on(1970, 1, 1).ofDate(0, 3), 0);
        Due.is("ahead of it", on(1969, 12, 31).ofDate(0, 3), -1);
        Due.is("behind it", on(1970, 1, 2).ofDate(0, 3), 1);
    }

    private static void dateTexts() {
        Due.is("the document's", on(2024, 2, 29).dateText(0), "2024-2-29");
        Due.is("the first day", on(1600, 1, 1).dateText(0), "1600-1-1");
        Due.is("the last day", on(2400, 12, 31).dateText(0), "2400-12-31");
        Due.is("day and month from 9 to 10", on(2000, 10, 9).dateText(0) + on(2000, 9, 10).dateText(0),
            "2000-10-92000-9-10");
    }

    private static void firstAndLast() {
        LocalDate[] days = {day(1600, 1, 1), day(1600, 1, 2), day(1600, 2, 1), day(1969, 12, 31), day(1970, 1, 1),
            day(2000, 12, 1), day(2001, 1, 31), day(2400, 12, 30), day(2400, 12, 31)};
        for (int n = 0; n < days.length; n++) {
            for (int m = 0; m < days.length; m++) {
                Periodcard x = on(days[n]);
                x.date(1, days[m].getYear(), days[m].getMonthValue(), days[m].getDayOfMonth());
                Due.is(days[n] + " and " + days[m], x.order(0, 1), Integer.compare(n, m));
            }
        }
    }

    private static void monthsOn() {
        LocalDate[] days = {day(2024, 1, 31), day(2024, 2, 29), day(2023, 12, 30), day(2024, 12, 31),
            day(2023, 2, 28), day(1900, 3, 31), day(2000, 3, 31), day(2024, 8, 1)};
        for (LocalDate each : days) {
            for (int months = -50; months <= 50; months++) {
                moves(text(each.plusMonths(months)), each, only(1, months), false);
                moves(text(each.minusMonths(months)), each, only(1, months), true);
            }
        }
    }

    private static void monthsToTheEnds() {
        String[] due = {"2400-12-30", "", "1600-1-29", "", "2400-12-31", "", "1600-1-31", "", "2400-12-1", "",
            "1600-1-1", "", "", ""};
        LocalDate[] days = {day(2400, 11, 30), day(2400, 11, 30), day(1600, 2, 29), day(1600, 2, 29),
            day(1600, 1, 31), day(1600, 1, 31), day(2400, 12, 31), day(2400, 12, 31), day(1600, 12, 1),
            day(1601, 1, 1), day(2400, 1, 1), day(2399, 12, 1), day(2000, 1, 1), day(2000, 1, 1)};
        int[][] on = {only(1, 1), only(1, 2), only(1, -1), only(1, -2), only(1, 9611), only(1, 9612),
            only(1, -9611), only(1, -9612), only(0, 800), only(0, 800), only(0, -800), only(0, -800),
            only(1, MAX), only(1, MIN)};
        movesFrom(due, days, on, false);
        for (int n = 0; n < on.length; n++) {
            // The least number has no opposite among those that can be told.
            on[n] = on[n][1] == MIN ? only(1, MAX) : new int[] {-on[n][0], -on[n][1], 0};
        }
        movesFrom(due, days, on, true);
    }

    private static void monthsThenDays() {
        moves("2024-3-1", day(2024, 1, 30), new int[] {0, 1, 1}, false);
        moves("2024-2-28", day(2024, 3, 31), new int[] {0, -1, -1}, false);
        moves("2024-2-29", day(2024, 2, 29), new int[] {1, -12, 0}, false);
        moves("2024-3-1", day(2024, 2, 29), new int[] {-1, 12, 1}, false);
        moves("2000-5-1", day(2000, 1, 1), new int[] {178956971, MIN, 0}, false);
        moves("1999-12-31", day(2000, 1, 1), new int[] {178956970, -2147483640, -1}, false);
        moves("2001-1-1", day(2000, 12, 31), only(2, 1), false);
    }

    private static void monthsThenDaysBack() {
        moves("2024-2-28", day(2024, 3, 30), new int[] {0, 1, 1}, true);
        moves("2024-3-1", day(2024, 1, 31), new int[] {0, -1, -1}, true);
        moves("2024-2-29", day(2024, 2, 29), new int[] {1, -12, 0}, true);
        moves("1999-9-1", day(2000, 1, 1), new int[] {178956971, MIN, 0}, true);
        moves("1999-12-31", day(2000, 1, 1), only(2, 1), true);
        moves("", day(2000, 1, 1), only(0, MIN), true);
        moves("", day(2000, 1, 1), only(2, MIN), true);
    }

    private static void monthOnTheWay() {
        moves("", day(2400, 12, 15), new int[] {0, 1, -31}, false);
        moves("", day(2400, 12, 31), new int[] {1, 0, -366}, false);
        moves("", day(1600, 1, 15), new int[] {0, -1, 31}, false);
        moves("", day(1600, 1, 15), new int[] {0, 1, -31}, true);
        moves("", day(2400, 12, 15), new int[] {0, -1, 31}, true);
        moves("2400-12-1", day(2400, 11, 15), new int[] {0, 1, -14}, false);
        moves("1600-1-31", day(1600, 2, 15), new int[] {0, 1, -16}, true);
        moves("", day(2000, 1, 1), new int[] {1 << 30, 0, 0}, false);
        moves("", day(2000, 1, 1), new int[] {1 << 30, 0, 0}, true);
    }

    private static void dateAtTheEnd() {
        moves("2400-12-31", day(2400, 11, 30), new int[] {0, 1, 1}, false);
        moves("", day(2400, 11, 30), new int[] {0, 1, 2}, false);
        moves("1600-1-1", day(1600, 2, 2), new int[] {0, -1, -1}, false);
        moves("", day(1600, 2, 2), new int[] {0, -1, -2}, false);
        moves("1600-1-1", day(1600, 2, 2), new int[] {0, 1, 1}, true);
        moves("", day(1600, 2, 2), new int[] {0, 1, 2}, true);
        moves("2400-12-31", day(2400, 11, 30), new int[] {0, -1, -1}, true);
        moves("", day(2400, 11, 30), new int[] {0, -1, -2}, true);
        moves("", day(1600, 1, 1), only(2, 292560), false);
        moves("", day(2400, 12, 31), only(2, 292560), true);
        for (int days : new int[] {MAX, MIN, MAX - 157419, MIN + 135140}) {
            moves("", day(2400, 12, 31), only(2, days), false);
            moves("", day(1600, 1, 1), only(2, days), true);
        }
    }

    private static void actsAtDates() {
        Kept.ActAtOne[] acts = {(x, n) -> x.date(n, 2000, 1, 1), (x, n) -> x.date(n, 2024, 2, 29),
            (x, n) -> x.copyDate(n, 0), (x, n) -> x.move(n, 2), (x, n) -> x.back(n, 2)};
        for (int k = 0; k < acts.length; k++) {
            String seen = "";
            for (int n = 0; n < 8; n++) {
                Periodcard x = n < 4 ? Kept.sample() : new Periodcard();
                String before = x.dateText(n % 4);
                Object answer = acts[k].of(x, n % 4);
                Due.is("act " + k + " at date " + n % 4, answer, before.equals(x.dateText(n % 4)) ? 0 : 1);
                seen += answer;
            }
            Due.is("act " + k + " tells both", seen.contains("0") && seen.contains("1"), true);
        }
    }

    // ---- the span between two dates

    private static void isBetween(String due, LocalDate a, LocalDate b) {
        Periodcard x = on(a);
        x.date(1, b.getYear(), b.getMonthValue(), b.getDayOfMonth());
        Due.is("between " + a + " and " + b, x.apart(0, 1), due);
    }

    private static void monthsBetween() {
        LocalDate a = day(2000, 1, 1);
        for (int w = -30; w <= 30; w++) {
            isBetween(w / 12 + "y " + w % 12 + "m 0d", a, a.plusMonths(w));
        }
        isBetween("800y 11m 0d", day(1600, 1, 1), day(2400, 12, 1));
        isBetween("-800y -11m 0d", day(2400, 12, 1), day(1600, 1, 1));
    }

    private static void lastMonthNotWhole() {
        isBetween("0y 0m 30d", day(2023, 1, 15), day(2023, 2, 14));
        isBetween("0y 1m 0d", day(2023, 1, 15), day(2023, 2, 15));
        isBetween("0y 1m 1d", day(2023, 1, 15), day(2023, 2, 16));
        isBetween("0y 1m 0d", day(2024, 1, 29), day(2024, 2, 29));
        isBetween("0y 0m 30d", day(2024, 1, 30), day(2024, 2, 29));
        isBetween("0y 0m 29d", day(2024, 1, 31), day(2024, 2, 29));
        isBetween("0y 11m 28d", day(2023, 3, 15), day(2024, 3, 14));
        isBetween("1y 0m 0d", day(2023, 3, 15), day(2024, 3, 15));
        isBetween("800y 11m 29d", day(1600, 1, 2), day(2400, 12, 31));
        isBetween("800y 10m 30d", day(1600, 1, 31), day(2400, 12, 30));
    }

    private static void toldUpTo28() {
        isBetween("0y 0m -1d", day(2024, 3, 28), day(2024, 3, 27));
        isBetween("", day(2024, 3, 29), day(2024, 3, 28));
        isBetween("", day(2024, 3, 30), day(2024, 3, 29));
        isBetween("", day(2024, 3, 31), day(2024, 3, 1));
        isBetween("", day(2024, 2, 29), day(2000, 2, 29));
        isBetween("-1y 0m 0d", day(2024, 2, 28), day(2023, 2, 28));
        isBetween("", day(2400, 12, 29), day(1600, 1, 1));
        isBetween("-800y -11m -27d", day(2400, 12, 28), day(1600, 1, 1));
        isBetween("0y 0m 0d", day(2024, 3, 31), day(2024, 3, 31));
        isBetween("0y 0m 0d", day(2024, 2, 29), day(2024, 2, 29));
        isBetween("0y 0m 1d", day(2024, 3, 31), day(2024, 4, 1));
    }

    private static void lastMonthNotWholeBack() {
        isBetween("0y -1m -1d", day(2024, 3, 15), day(2024, 2, 14));
        isBetween("0y -1m 0d", day(2024, 3, 15), day(2024, 2, 15));
        isBetween("0y 0m -28d", day(2024, 3, 15), day(2024, 2, 16));
        isBetween("0y 0m -1d", day(2024, 3, 15), day(2024, 3, 14));
        isBetween("0y 0m -14d", day(2024, 3, 15), day(2024, 3, 1));
        isBetween("0y 0m -28d", day(2024, 3, 28), day(2024, 2, 29));
        isBetween("0y 0m -1d", day(2024, 1, 1), day(2023, 12, 31));
        isBetween("0y -11m -30d", day(2024, 3, 15), day(2023, 3, 16));
        isBetween("-1y 0m 0d", day(2024, 3, 15), day(2023, 3, 15));
        isBetween("-1y 0m -1d", day(2024, 3, 15), day(2023, 3, 14));
    }

    private static void yearsBetween() {
        int[] months = {11, 12, 13, -11, -12, -13, 24, -24};
        String[] due = {"0y 11m 0d", "1y 0m 0d", "1y 1m 0d", "0y -11m 0d", "-1y 0m 0d", "-1y -1m 0d", "2y 0m 0d",
            "-2y 0m 0d"};
        for (int n = 0; n < due.length; n++) {
            isBetween(due[n], day(2010, 6, 28), day(2010, 6, 28).plusMonths(months[n]));
        }
    }

    private static void daysBetween() {
        isBetween("0y 1m 1d", day(2024, 1, 31), day(2024, 3, 1));
        isBetween("0y 1m 1d", day(2023, 1, 31), day(2023, 3, 1));
        isBetween("0y 1m 30d", day(2023, 1, 31), day(2023, 3, 30));
        isBetween("0y 2m 0d", day(2023, 1, 31), day(2023, 3, 31));
        isBetween("1y 0m 1d", day(2024, 2, 29), day(2025, 3, 1));
        isBetween("0y 11m 30d", day(2024, 2, 29), day(2025, 2, 28));
        isBetween("4y 0m 0d", day(2020, 2, 29), day(2024, 2, 29));
        isBetween("0y 0m 30d", day(2023, 12, 1), day(2023, 12, 31));
    }
}
