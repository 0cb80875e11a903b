/** Promises 1 to 20 and 25 to 36: spans that are written, reckoned and asked of. */
public final class SpanTest {
    private static final int MAX = Integer.MAX_VALUE;
    private static final int MIN = Integer.MIN_VALUE;
    private static final int REFUSED = -9;

    public static void main(String[] args) {
        newObject();
        writing();
        ofOneKind();
        changing();
        copyingAndSwapping();
        addingParts();
        takingParts();
        farParts();
        plusAndMinus();
        multiplying();
        negating();
        tidying();
        parts();
        totals();
        zeroAndNegative();
        sameAndAlike();
        texts();
        addedTexts();
        withTexts();
        noSuchCard();
        Due.end("SpanTest");
    }

    private static Periodcard with(int years, int months, int days) {
        Periodcard x = new Periodcard();
        x.write(0, years, months, days);
        return x;
    }

    private static void newObject() {
        Periodcard x = new Periodcard();
        for (int n = 0; n < 4; n++) {
            Due.is("1: text of a new card", x.text(n), "0y 0m 0d");
            Due.is("1: dateText of a new date", x.dateText(n), "2000-1-1");
        }
        Due.is("1: piled(0)", x.piled(0), "");
        int[] house = {0, 0, 0, 4, 0};
        for (int what = 0; what < house.length; what++) {
            Due.is("1: house(" + what + ")", x.house(what), house[what]);
        }
    }

    private static void writing() {
        Periodcard x = new Periodcard();
        Due.is("2: nothing over nothing", x.write(3, 0, 0, 0), 0);
        Due.is("2: another one", x.write(3, 0, 14, -3), 1);
        Due.is("2: nothing is carried", x.text(3), "0y 14m -3d");
        Due.is("2: the same again", x.write(3, 0, 14, -3), 0);
        Due.is("2: alike is not the same", x.write(3, 1, 2, -3), 1);
        Due.is("2: the ends", x.write(3, MIN, MAX, MIN), 1);
        Due.is("2: the ends as a text", x.text(3), "-2147483648y 2147483647m -2147483648d");
        Due.is("2: other cards stay", x.text(2), "0y 0m 0d");
        Due.is("2: days alone differ", x.write(3, MIN, MAX, MAX), 1);
        Due.is("2: months alone differ", x.write(3, MIN, MIN, MAX), 1);
        Due.is("2: years alone differ", x.write(3, MAX, MIN, MAX), 1);
    }

    private static void ofOneKind() {
        Periodcard x = with(7, 7, 7);
        Due.is("3: ofYears", x.ofYears(0, -5), 1);
        Due.is("3: the others are 0", x.text(0), "-5y 0m 0d");
        Due.is("3: again", x.ofYears(0, -5), 0);
        x.write(0, 7, 7, 7);
        Due.is("4: ofMonths", x.ofMonths(0, 14), 1);
        Due.is("4: the others are 0", x.text(0), "0y 14m 0d");
        Due.is("4: again", x.ofMonths(0, 14), 0);
        x.write(0, 7, 7, 7);
        Due.is("6: ofDays", x.ofDays(0, MIN), 1);
        Due.is("6: the others are 0", x.text(0), "0y 0m -2147483648d");
        Due.is("6: again", x.ofDays(0, MIN), 0);
        x.write(0, 7, 7, 7);
        Due.is("5: ofWeeks", x.ofWeeks(0, -3), 1);
        Due.is("5: the others are 0", x.text(0), "0y 0m -21d");
        Due.is("5: again", x.ofWeeks(0, -3), 0);
        Due.is("5: the most", x.ofWeeks(0, 306783378), 1);
        Due.is("5: the most days", x.part(0, 2), 2147483646);
        Due.is("5: one more", x.ofWeeks(0, 306783379), REFUSED);
        Due.is("5: the fewest", x.ofWeeks(0, -306783378), 1);
        Due.is("5: one fewer", x.ofWeeks(0, -306783379), REFUSED);
        Due.is("5: so many that they wrap round", x.ofWeeks(0, MIN), REFUSED);
        Due.is("5: nothing changes", x.text(0), "0y 0m -2147483646d");
        Due.is("5: counted", x.house(1), 3);
    }

    private static void changing() {
        Periodcard x = with(1, 2, 3);
        Due.is("7: years", x.change(0, 0, MAX), 1);
        Due.is("7: text", x.text(0), "2147483647y 2m 3d");
        Due.is("7: months", x.change(0, 1, MIN), 1);
        Due.is("7: days", x.change(0, 2, -4), 1);
        Due.is("7: text", x.text(0), "2147483647y -2147483648m -4d");
        Due.is("7: the same", x.change(0, 2, -4), 0);
        Due.throwsArgument("7: what is 3", () -> x.change(0, 3, 1));
        Due.throwsArgument("7: what is -1", () -> x.change(0, -1, 1));
        Due.throwsIndex("7: the card goes ahead", () -> x.change(4, 3, 1));
        Due.is("7: nothing changes", x.text(0), "2147483647y -2147483648m -4d");
        Due.is("7: an exception is not REFUSED", x.house(1), 0);
    }

    private static void copyingAndSwapping() {
        Periodcard x = with(1, 2, 3);
        Due.is("8: copy", x.copy(1, 0), 1);
        Due.is("8: got", x.text(1), "1y 2m 3d");
        Due.is("8: the other one stays", x.text(0), "1y 2m 3d");
        Due.is("8: again", x.copy(1, 0), 0);
        Due.is("8: of itself", x.copy(1, 1), 0);
        x.change(0, 2, 4);
        Due.is("8: no tie between them", x.text(1), "1y 2m 3d");
        Due.is("9: swap", x.swap(0, 1), 1);
        Due.is("9: first", x.text(0), "1y 2m 3d");
        Due.is("9: second", x.text(1), "1y 2m 4d");
        Due.is("9: with itself", x.swap(1, 1), 0);
        Due.is("9: it stays", x.text(1), "1y 2m 4d");
        x.copy(0, 1);
        Due.is("9: two that are the same", x.swap(0, 1), 0);
    }

    private static void addingParts() {
        Periodcard x = with(1, 2, 3);
        Due.is("10: plusYears", x.plusYears(0, -4, false), 1);
        Due.is("11: plusMonths", x.plusMonths(0, 20, false), 1);
        Due.is("12: plusDays", x.plusDays(0, 40, false), 1);
        Due.is("10 to 12: none is carried", x.text(0), "-3y 22m 43d");
        Due.is("10: 0 years", x.plusYears(0, 0, false), 0);
        Due.is("11: 0 months", x.plusMonths(0, 0, false), 0);
        Due.is("12: 0 days", x.plusDays(0, 0, false), 0);
        x.write(0, MAX - 1, MAX - 1, MAX - 1);
        Due.is("10: to the end", x.plusYears(0, 1, false), 1);
        Due.is("11: to the end", x.plusMonths(0, 1, false), 1);
        Due.is("12: to the end", x.plusDays(0, 1, false), 1);
        Due.is("10: beyond it", x.plusYears(0, 1, false), REFUSED);
        Due.is("11: beyond it", x.plusMonths(0, 1, false), REFUSED);
        Due.is("12: beyond it", x.plusDays(0, 1, false), REFUSED);
        Due.is("10 to 12: nothing changes", x.text(0), "2147483647y 2147483647m 2147483647d");
        x.write(0, 0, 0, 0);
        Due.is("10: the least", x.plusYears(0, MIN, false), 1);
        Due.is("11: the least", x.plusMonths(0, MIN, false), 1);
        Due.is("12: the least", x.plusDays(0, MIN, false), 1);
        Due.is("10: less", x.plusYears(0, -1, false), REFUSED);
        Due.is("11: less", x.plusMonths(0, -1, false), REFUSED);
        Due.is("12: less", x.plusDays(0, -1, false), REFUSED);
        Due.is("10 to 12: counted", x.house(1), 6);
    }

    private static void takingParts() {
        Periodcard x = with(1, 2, 3);
        Due.is("13: minusYears", x.minusYears(0, -4, false), 1);
        Due.is("14: minusMonths", x.minusMonths(0, 20, false), 1);
        Due.is("15: minusDays", x.minusDays(0, 40, false), 1);
        Due.is("13 to 15: none is carried", x.text(0), "5y -18m -37d");
        Due.is("13: 0 years", x.minusYears(0, 0, false), 0);
        Due.is("14: 0 months", x.minusMonths(0, 0, false), 0);
        Due.is("15: 0 days", x.minusDays(0, 0, false), 0);
        x.write(0, MIN + 1, MIN + 1, MIN + 1);
        Due.is("13: to the end", x.minusYears(0, 1, false), 1);
        Due.is("14: to the end", x.minusMonths(0, 1, false), 1);
        Due.is("15: to the end", x.minusDays(0, 1, false), 1);
        Due.is("13: beyond it", x.minusYears(0, 1, false), REFUSED);
        Due.is("14: beyond it", x.minusMonths(0, 1, false), REFUSED);
        Due.is("15: beyond it", x.minusDays(0, 1, false), REFUSED);
        Due.is("13: the least is taken", x.minusYears(0, MIN, false), 1);
        Due.is("14: the least is taken", x.minusMonths(0, MIN, false), 1);
        Due.is("15: the least is taken", x.minusDays(0, MIN, false), 1);
        Due.is("13 to 15: nothing is left", x.text(0), "0y 0m 0d");
        Due.is("13: the least from 0", x.minusYears(0, MIN, false), REFUSED);
        Due.is("14: the least from 0", x.minusMonths(0, MIN, false), REFUSED);
        Due.is("15: the least from 0", x.minusDays(0, MIN, false), REFUSED);
        Due.is("13 to 15: counted", x.house(1), 6);
    }

    private static void farParts() {
        int[] some = {1, -1, 2, 65536, -65536, MAX, MIN, 1 << 30};
        Periodcard x = with(-1, 0, 1);
        for (int many : some) {
            Due.is("10: far " + many, x.plusYears(0, many, true), REFUSED);
            Due.is("11: far " + many, x.plusMonths(0, many, true), REFUSED);
            Due.is("12: far " + many, x.plusDays(0, many, true), REFUSED);
            Due.is("13: far " + many, x.minusYears(0, many, true), REFUSED);
            Due.is("14: far " + many, x.minusMonths(0, many, true), REFUSED);
            Due.is("15: far " + many, x.minusDays(0, many, true), REFUSED);
        }
        Due.is("10: far 0", x.plusYears(0, 0, true), 0);
        Due.is("11: far 0", x.plusMonths(0, 0, true), 0);
        Due.is("12: far 0", x.plusDays(0, 0, true), 0);
        Due.is("13: far 0", x.minusYears(0, 0, true), 0);
        Due.is("14: far 0", x.minusMonths(0, 0, true), 0);
        Due.is("15: far 0", x.minusDays(0, 0, true), 0);
        Due.is("10 to 15: nothing changes", x.text(0), "-1y 0m 1d");
        // From one end 4000000000 leads to what can be told by the other sign.
        x.write(0, MIN, MIN, MIN);
        Due.is("10: from the least", x.plusYears(0, 1, true), 1);
        Due.is("11: from the least", x.plusMonths(0, 1, true), 1);
        Due.is("12: from the least", x.plusDays(0, 1, true), 1);
        Due.is("10 to 12: text", x.text(0), "1852516352y 1852516352m 1852516352d");
        Due.is("13: back", x.minusYears(0, 1, true), 1);
        Due.is("14: back", x.minusMonths(0, 1, true), 1);
        Due.is("15: back", x.minusDays(0, 1, true), 1);
        Due.is("13 to 15: text", x.text(0), "-2147483648y -2147483648m -2147483648d");
    }

    private static void plusAndMinus() {
        Periodcard x = with(1, 12, -3);
        x.write(1, -1, 2, 3);
        Due.is("16: plus", x.plus(0, 1), 1);
        Due.is("16: text", x.text(0), "0y 14m 0d");
        Due.is("16: the other one stays", x.text(1), "-1y 2m 3d");
        Due.is("16: nothing is added", x.plus(0, 2), 0);
        Due.is("16: itself", x.plus(1, 1), 1);
        Due.is("16: text", x.text(1), "-2y 4m 6d");
        Due.is("17: minus", x.minus(0, 1), 1);
        Due.is("17: text", x.text(0), "2y 10m -6d");
        Due.is("17: nothing is taken", x.minus(0, 2), 0);
        Due.is("17: itself", x.minus(1, 1), 1);
        Due.is("17: text", x.text(1), "0y 0m 0d");
        int[][] units = {{1, 0, 0}, {0, 1, 0}, {0, 0, 1}};
        for (int[] unit : units) {
            x.write(0, MAX * unit[0], MAX * unit[1], MAX * unit[2]);
            x.write(1, unit[0], unit[1], unit[2]);
            Due.is("16: one number can not be told", x.plus(0, 1), REFUSED);
            x.write(0, MIN * unit[0], MIN * unit[1], MIN * unit[2]);
            Due.is("17: one number can not be told", x.minus(0, 1), REFUSED);
            x.negated(1);
            Due.is("16: below", x.plus(0, 1), REFUSED);
        }
        Due.is("16, 17: nothing changes", x.text(0), "0y 0m -2147483648d");
        Due.is("16: twice the least", x.plus(0, 0), REFUSED);
        Due.is("17: less itself", x.minus(0, 0), 1);
        Due.is("16, 17: counted", x.house(1), 10);
    }

    private static void multiplying() {
        Periodcard x = with(1, -14, 3);
        Due.is("32: times", x.times(0, -2), "-2y 28m -6d");
        Due.is("32: 0 times", x.times(0, 0), "0y 0m 0d");
        Due.is("18: once", x.multipliedBy(0, 1), 0);
        Due.is("18: -2 times", x.multipliedBy(0, -2), 1);
        Due.is("18: text", x.text(0), "-2y 28m -6d");
        Due.is("18: too many", x.multipliedBy(0, 1 << 30), REFUSED);
        Due.is("18: so many that they wrap round to 0", x.multipliedBy(0, MIN), REFUSED);
        Due.is("32: can not be done", x.times(0, MIN), "");
        Due.is("18: nothing changes", x.text(0), "-2y 28m -6d");
        Due.is("18: 0 times", x.multipliedBy(0, 0), 1);
        Due.is("18: 0 times nothing", x.multipliedBy(0, MIN), 0);
        x.ofDays(0, 1 << 30);
        Due.is("18: -2 times to the least", x.multipliedBy(0, -2), 1);
        Due.is("18: the least", x.text(0), "0y 0m -2147483648d");
        Due.is("18: -1 times the least", x.multipliedBy(0, -1), REFUSED);
        Due.is("18: once the least", x.multipliedBy(0, 1), 0);
        x.write(1, MIN, MAX, MIN);
        Due.is("32: greatest product", x.times(1, MIN), "");
        Due.is("18: counted, and times() is not", x.house(1), 3);
    }

    private static void negating() {
        Periodcard x = with(1, -14, 0);
        Due.is("36: opposite", x.opposite(0), "-1y 14m 0d");
        Due.is("19: negated", x.negated(0), 1);
        Due.is("19: text", x.text(0), "-1y 14m 0d");
        Due.is("19: nothing", x.negated(1), 0);
        x.write(0, MAX, MAX, MAX);
        Due.is("19: the greatest", x.negated(0), 1);
        Due.is("19: text", x.text(0), "-2147483647y -2147483647m -2147483647d");
        int[][] least = {{MIN, 1, 1}, {1, MIN, 1}, {1, 1, MIN}};
        for (int[] numbers : least) {
            x.write(0, numbers[0], numbers[1], numbers[2]);
            Due.is("19: the least", x.negated(0), REFUSED);
            Due.is("36: the least", x.opposite(0), "");
        }
        Due.is("19: nothing changes", x.text(0), "1y 1m -2147483648d");
        Due.is("19: counted, and opposite() is not", x.house(1), 3);
    }

    private static void tidying() {
        Periodcard x = with(1, -25, MIN);
        Due.is("35: below 0", x.tidy(0), "-1y -1m -2147483648d");
        Due.is("20: below 0", x.normalized(0), 1);
        Due.is("20: text", x.text(0), "-1y -1m -2147483648d");
        Due.is("20: again", x.normalized(0), 0);
        x.write(0, 1, 14, -3);
        Due.is("20: above 0", x.normalized(0), 1);
        Due.is("20: text", x.text(0), "2y 2m -3d");
        x.write(0, -1, 12, 9);
        Due.is("35: to 0", x.tidy(0), "0y 0m 9d");
        x.write(0, 0, -11, 0);
        Due.is("35: rounded towards 0", x.tidy(0), "0y -11m 0d");
        Due.is("20: tidy already", x.normalized(0), 0);
        x.write(0, MAX, 11, 0);
        Due.is("20: the greatest", x.normalized(0), 0);
        x.write(0, MAX, 12, 0);
        Due.is("20: one more", x.normalized(0), REFUSED);
        Due.is("35: one more", x.tidy(0), "");
        Due.is("20: nothing changes", x.text(0), "2147483647y 12m 0d");
        x.write(0, MIN, -11, 0);
        Due.is("20: the least", x.normalized(0), 0);
        x.write(0, MIN, -12, 0);
        Due.is("20: one less", x.normalized(0), REFUSED);
        x.write(0, MIN, MAX, 0);
        Due.is("35: from far", x.tidy(0), "-1968526677y -5m 0d");
        Due.is("20: counted, and tidy() is not", x.house(1), 2);
    }

    private static void parts() {
        Periodcard x = with(MIN, 5, MAX);
        Due.is("25: years", x.part(0, 0), MIN);
        Due.is("25: months", x.part(0, 1), 5);
        Due.is("25: days", x.part(0, 2), MAX);
        Due.throwsArgument("25: what is 3", () -> x.part(0, 3));
        Due.throwsArgument("25: what is -1", () -> x.part(0, -1));
        Due.throwsIndex("25: the card goes ahead", () -> x.part(-1, 3));
    }

    private static void totals() {
        int[][] spans = {{0, 0}, {1, 14}, {1, -25}, {0, 9}, {0, 10}, {-1, 2}, {MAX, MAX}, {MIN, MIN},
            {MAX, 11}, {83333333, 4}, {83333333, 3}};
        String[] due = {"0", "26", "-13", "9", "10", "-10", "27917287411", "-27917287424",
            "25769803775", "1000000000", "999999999"};
        for (int n = 0; n < due.length; n++) {
            Due.is("26: total", with(spans[n][0], spans[n][1], 5).total(0), due[n]);
        }
    }

    private static void zeroAndNegative() {
        int[][] spans = {{0, 0, 0}, {1, 0, 0}, {0, 1, 0}, {0, 0, 1}, {-1, 12, 0}, {5, -1, 5}, {5, 5, -1},
            {-1, 5, 5}, {MIN, 0, 0}, {1, -12, 0}};
        boolean[] zero = {true, false, false, false, false, false, false, false, false, false};
        boolean[] negative = {false, false, false, false, true, true, true, true, true, true};
        for (int n = 0; n < spans.length; n++) {
            Periodcard x = with(spans[n][0], spans[n][1], spans[n][2]);
            Due.is("27: isZero of " + x.text(0), x.isZero(0), zero[n]);
            Due.is("28: isNegative of " + x.text(0), x.isNegative(0), negative[n]);
        }
    }

    private static void sameAndAlike() {
        Periodcard x = with(1, 2, 3);
        int[][] spans = {{1, 2, 3}, {0, 14, 3}, {2, -10, 3}, {0, 14, 4}, {1, 3, 3}, {1, 2, 4}, {2, 2, 3}};
        boolean[] same = {true, false, false, false, false, false, false};
        boolean[] alike = {true, true, true, false, false, false, false};
        for (int n = 0; n < spans.length; n++) {
            x.write(1, spans[n][0], spans[n][1], spans[n][2]);
            Due.is("29: areSame " + x.text(1), x.areSame(0, 1), same[n]);
            Due.is("29: the other way " + x.text(1), x.areSame(1, 0), same[n]);
            Due.is("30: areAlike " + x.text(1), x.areAlike(0, 1), alike[n]);
            Due.is("30: the other way " + x.text(1), x.areAlike(1, 0), alike[n]);
        }
        // 12 times these years differ by 2 to the power of 34, which wraps round to the same int.
        x.write(0, 0, 0, 0);
        x.write(1, 1 << 30, 0, 0);
        Due.is("30: a true number", x.areAlike(0, 1), false);
        Due.is("29: the same card", x.areSame(1, 1), true);
        Due.is("30: the same card", x.areAlike(1, 1), true);
    }

    private static void texts() {
        Due.is("31: text", with(0, 14, -3).text(0), "0y 14m -3d");
        Due.is("31: the ends", with(MAX, MIN, MAX).text(0), "2147483647y -2147483648m 2147483647d");
    }

    private static void addedTexts() {
        Periodcard x = with(1, -2, 13);
        Due.is("33: 0 times", x.added(0, 0), "0y 0m 0d");
        Due.is("33: once", x.added(0, 1), "1y -2m 13d");
        Due.is("33: 9 times", x.added(0, 9), "9y -18m 117d");
        Due.is("33: the card stays", x.text(0), "1y -2m 13d");
        x.ofDays(0, 1 << 30);
        Due.is("33: can not be done", x.added(0, 2), "");
        Due.is("33: 4 times wraps round to 0", x.added(0, 4), "");
        x.ofDays(0, MIN);
        Due.is("33: the least once", x.added(0, 1), "0y 0m -2147483648d");
        Due.is("33: not counted", x.house(1), 0);
        Due.throwsArgument("33: n is -1", () -> x.added(0, -1));
        Due.throwsArgument("33: n is 10", () -> x.added(0, 10));
        Due.throwsIndex("33: the card goes ahead", () -> x.added(4, 10));
    }

    private static void withTexts() {
        Periodcard x = with(1, 2, 3);
        x.write(1, 10, -20, 30);
        Due.is("34: sum", x.with(0, 1, false), "11y -18m 33d");
        Due.is("34: difference", x.with(0, 1, true), "-9y 22m -27d");
        Due.is("34: of itself", x.with(1, 1, true), "0y 0m 0d");
        Due.is("34: cards stay", x.text(0) + x.text(1), "1y 2m 3d10y -20m 30d");
        x.write(1, 0, MIN, 0);
        Due.is("34: sum with the least", x.with(0, 1, false), "1y -2147483646m 3d");
        Due.is("34: the least is taken", x.with(0, 1, true), "");
        Due.is("34: from the least", x.with(1, 0, true), "");
        Due.is("34: twice the least", x.with(1, 1, false), "");
        Due.is("34: not counted", x.house(1), 0);
    }

    private static void noSuchCard() {
        Periodcard x = new Periodcard();
        for (int n : new int[] {-1, 4, MAX, MIN}) {
            Due.throwsIndex("2", () -> x.write(n, 1, 1, 1));
            Due.throwsIndex("3", () -> x.ofYears(n, 1));
            Due.throwsIndex("4", () -> x.ofMonths(n, 1));
            Due.throwsIndex("5", () -> x.ofWeeks(n, MAX));
            Due.throwsIndex("6", () -> x.ofDays(n, 1));
            Due.throwsIndex("7", () -> x.change(n, 0, 1));
            Due.throwsIndex("8", () -> x.copy(n, 0));
            Due.throwsIndex("8: from", () -> x.copy(0, n));
            Due.throwsIndex("9", () -> x.swap(n, 0));
            Due.throwsIndex("9: other", () -> x.swap(0, n));
            Due.throwsIndex("10", () -> x.plusYears(n, 1, true));
            Due.throwsIndex("11", () -> x.plusMonths(n, 1, true));
            Due.throwsIndex("12", () -> x.plusDays(n, 1, true));
            Due.throwsIndex("13", () -> x.minusYears(n, 1, true));
            Due.throwsIndex("14", () -> x.minusMonths(n, 1, true));
            Due.throwsIndex("15", () -> x.minusDays(n, 1, true));
            Due.throwsIndex("16", () -> x.plus(n, 0));
            Due.throwsIndex("16: other", () -> x.plus(0, n));
            Due.throwsIndex("17", () -> x.minus(n, 0));
            Due.throwsIndex("17: other", () -> x.minus(0, n));
            Due.throwsIndex("18", () -> x.multipliedBy(n, 1));
            Due.throwsIndex("19", () -> x.negated(n));
            Due.throwsIndex("20", () -> x.normalized(n));
            Due.throwsIndex("25", () -> x.part(n, 0));
            Due.throwsIndex("26", () -> x.total(n));
            Due.throwsIndex("27", () -> x.isZero(n));
            Due.throwsIndex("28", () -> x.isNegative(n));
            Due.throwsIndex("29", () -> x.areSame(n, 0));
            Due.throwsIndex("29: other", () -> x.areSame(0, n));
            Due.throwsIndex("30", () -> x.areAlike(n, 0));
            Due.throwsIndex("30: other", () -> x.areAlike(0, n));
            Due.throwsIndex("31", () -> x.text(n));
            Due.throwsIndex("32", () -> x.times(n, 1));
            Due.throwsIndex("33", () -> x.added(n, 1));
            Due.throwsIndex("34", () -> x.with(n, 0, true));
            Due.throwsIndex("34: other", () -> x.with(0, n, false));
            Due.throwsIndex("35", () -> x.tidy(n));
            Due.throwsIndex("36", () -> x.opposite(n));
        }
        Due.is("an exception is not counted", x.house(1), 0);
        Due.is("an exception changes nothing", x.house(3), 4);
    }
}
