import java.math.BigInteger;
import java.time.LocalDate;
import java.time.Period;
import java.time.temporal.ChronoUnit;
import java.util.ArrayList;
import java.util.Arrays;
import java.util.List;

/** Long runs of calls, each held against a model on the Java library's own great numbers and dates. */
public final class ModelTest {
    private static final int RUNS = 1500;
    private static final int CALLS_OF_RUN = 500;
    private static final int[] NUMBERS = {0, 1, -1, 2, -2, 3, 7, 11, 12, -12, 13, -25, 28, 31, -31, 100, 365, -366,
        400, 800, 1200, -4800, 9611, 146097, -292559, 292559, 1 << 30, -(1 << 30), 178956970, -2147483640,
        306783378, -306783379, Integer.MAX_VALUE, Integer.MIN_VALUE, Integer.MAX_VALUE - 1, Integer.MIN_VALUE + 1};
    private static final int[] YEARS = {1600, 1601, 1604, 1700, 1896, 1900, 1969, 1970, 1999, 2000, 2001, 2023, 2024,
        2100, 2396, 2399, 2400};
    private static final int[] DAYS = {1, 2, 15, 27, 28, 29, 30, 31};
    private static final int METHODS = 52;

    private static long seed = 20261118;

    public static void main(String[] args) {
        for (int run = 0; run < RUNS; run++) {
            Periodcard x = new Periodcard();
            Model model = new Model();
            for (int n = 0; n < CALLS_OF_RUN; n++) {
                int call = draw(METHODS);
                int[] a = arguments(call);
                Object due = outcome(null, model, call, a);
                Object got = outcome(x, model, call, a);
                if (!due.equals(got)) {
                    Due.is("run " + run + " call " + n + ": method " + call + " of " + Arrays.toString(a), got, due);
                    break;
                }
            }
            Due.is("run " + run + ": digest at the end", x.digest(), model.digest());
        }
        Due.end("ModelTest");
    }

    private static int draw(int bound) {
        seed = seed * 6364136223846793005L + 1442695040888963407L;
        return (int) ((seed >>> 33) % bound);
    }

    private static int place() {
        return draw(40) == 0 ? draw(2) == 0 ? -1 : 4 : draw(4);
    }

    private static int number() {
        int kind = draw(4);
        return kind == 0 ? NUMBERS[draw(NUMBERS.length)] : kind == 1 ? draw(5000) - 2500 : draw(61) - 30;
    }

    /** Four places or numbers and a flag, whatever the call makes of them. */
    private static int[] arguments(int call) {
        if (call == 35) {
            int year = draw(20) == 0 ? 1598 + draw(5) : draw(2) == 0 ? YEARS[draw(YEARS.length)] : 1600 + draw(801);
            int month = draw(30) == 0 ? draw(15) - 1 : 1 + draw(12);
            int day = draw(30) == 0 ? draw(40) - 2 : draw(2) == 0 ? DAYS[draw(8)] : 1 + draw(28);
            return new int[] {place(), year, month, day, 0};
        }
        boolean takesPlaces = Model.takesPlaces(call);
        int second = takesPlaces ? place() : call == 5 || call == 23 || call == 42 || call == 49 || call == 22
            ? draw(8) - 1 : call == 31 ? draw(12) - 1 : number();
        int third = takesPlaces ? call == 39 ? draw(15) - 1 : place() : number();
        int first = call == 22 || call == 49 ? second : place();
        return new int[] {first, second, third, number(), draw(2)};
    }

    private static Object outcome(Periodcard x, Model m, int call, int[] a) {
        try {
            return x == null ? m.answer(call, a) : answer(x, call, a);
        } catch (RuntimeException e) {
            return e.getClass();
        }
    }

    private static Object answer(Periodcard x, int call, int[] a) {
        boolean is = a[4] == 1;
        switch (call) {
            case 0: return x.write(a[0], a[1], a[2], a[3]);
            case 1: return x.ofYears(a[0], a[1]);
            case 2: return x.ofMonths(a[0], a[1]);
            case 3: return x.ofWeeks(a[0], a[1]);
            case 4: return x.ofDays(a[0], a[1]);
            case 5: return x.change(a[0], a[1], a[2]);
            case 6: return x.copy(a[0], a[1]);
            case 7: return x.swap(a[0], a[1]);
            case 8: return x.plusYears(a[0], a[1], is);
            case 9: return x.plusMonths(a[0], a[1], is);
            case 10: return x.plusDays(a[0], a[1], is);
            case 11: return x.minusYears(a[0], a[1], is);
            case 12: return x.minusMonths(a[0], a[1], is);
            case 13: return x.minusDays(a[0], a[1], is);
            case 14: return x.plus(a[0], a[1]);
            case 15: return x.minus(a[0], a[1]);
            case 16: return x.multipliedBy(a[0], a[1]);
            case 17: return x.negated(a[0]);
            case 18: return x.normalized(a[0]);
            case 19: return x.lay(a[0]);
            case 20: return x.take(a[0]);
            case 21: return x.sum(a[0]);
            case 22: return x.piled(a[0]);
            case 23: return x.part(a[0], a[1]);
            case 24: return x.total(a[0]);
            case 25: return x.isZero(a[0]);
            case 26: return x.isNegative(a[0]);
            case 27: return x.areSame(a[0], a[1]);
            case 28: return x.areAlike(a[0], a[1]);
            case 29: return x.text(a[0]);
            case 30: return x.times(a[0], a[1]);
            case 31: return x.added(a[0], a[1]);
            case 32: return x.with(a[0], a[1], is);
            case 33: return x.tidy(a[0]);
            case 34: return x.opposite(a[0]);
            case 35: return x.date(a[0], a[1], a[2], a[3]);
            case 36: return x.copyDate(a[0], a[1]);
            case 37: return x.move(a[0], a[1]);
            case 38: return x.back(a[0], a[1]);
            case 39: return x.walk(a[0], a[1], a[2]);
            case 40: return x.between(a[0], a[1], a[2]);
            case 41: return x.until(a[0], a[1], a[2]);
            case 42: return x.ofDate(a[0], a[1]);
            case 43: return x.dateText(a[0]);
            case 44: return x.moved(a[0], a[1], is);
            case 45: return x.apart(a[0], a[1]);
            case 46: return x.isToldBack(a[0], a[1]);
            case 47: return x.order(a[0], a[1]);
            case 48: return x.knock();
            case 49: return x.house(a[0]);
            case 50: return x.isSound();
            default: return x.digest();
        }
    }

    /** The document once more, in the plainest words: null stands for what can not be done. */
    private static final class Model {
        private static final int REFUSED = -9;
        private static final BigInteger TWELVE = BigInteger.valueOf(12);

        private final BigInteger[][] cards = new BigInteger[4][];
        private final LocalDate[] dates = new LocalDate[4];
        private final List<BigInteger[]> pile = new ArrayList<>();
        private int knocks;
        private int refusals;

        Model() {
            Arrays.fill(cards, span(0, 0, 0));
            Arrays.fill(dates, LocalDate.of(2000, 1, 1));
        }

        static boolean takesPlaces(int call) {
            return call == 6 || call == 7 || call == 14 || call == 15 || call == 27 || call == 28 || call == 32
                || call >= 36 && call <= 41 || call >= 44 && call <= 47;
        }

        private static BigInteger[] span(long years, long months, long days) {
            return new BigInteger[] {BigInteger.valueOf(years), BigInteger.valueOf(months), BigInteger.valueOf(days)};
        }

        private static BigInteger[] told(BigInteger[] span) {
            for (BigInteger number : span) {
                if (number.bitLength() > 31) {
                    return null;
                }
            }
            return span;
        }

        private static BigInteger[] plus(BigInteger[] a, BigInteger[] b, long times) {
            BigInteger[] sum = new BigInteger[3];
            for (int k = 0; k < 3; k++) {
                sum[k] = a[k].add(b[k].multiply(BigInteger.valueOf(times)));
            }
            return told(sum);
        }

        private static BigInteger[] times(BigInteger[] a, long n) {
            return plus(span(0, 0, 0), a, n);
        }

        private static BigInteger total(BigInteger[] a) {
            return a[0].multiply(TWELVE).add(a[1]);
        }

        private static BigInteger[] tidy(BigInteger[] a) {
            BigInteger[] parts = total(a).divideAndRemainder(TWELVE);
            return told(new BigInteger[] {parts[0], parts[1], a[2]});
        }

        private static BigInteger[] sum(List<BigInteger[]> spans) {
            BigInteger[] sum = span(0, 0, 0);
            for (BigInteger[] each : spans) {
                sum = sum == null ? null : plus(sum, each, 1);
            }
            return sum;
        }

        private static String text(BigInteger[] a) {
            return a == null ? "" : a[0] + "y " + a[1] + "m " + a[2] + "d";
        }

        private static String text(LocalDate date) {
            return date == null ? "" : date.getYear() + "-" + date.getMonthValue() + "-" + date.getDayOfMonth();
        }

        private static boolean isZero(BigInteger[] a) {
            return a[0].signum() == 0 && a[1].signum() == 0 && a[2].signum() == 0;
        }

        private static boolean isNegative(BigInteger[] a) {
            return a[0].signum() < 0 || a[1].signum() < 0 || a[2].signum() < 0;
        }

        private static boolean alike(BigInteger[] a, BigInteger[] b) {
            return total(a).equals(total(b)) && a[2].equals(b[2]);
        }

        private static LocalDate there(LocalDate date) {
            return date.getYear() < 1600 || date.getYear() > 2400 ? null : date;
        }

        private static LocalDate moved(LocalDate date, BigInteger[] span, int sign) {
            long months = total(span).longValueExact() * sign;
            LocalDate onTheWay = Math.abs(months) > 20000 ? null : there(date.plusMonths(months));
            return onTheWay == null ? null : there(onTheWay.plusDays(span[2].longValueExact() * sign));
        }

        /** The library's own span is the document's, wherever the document tells one. */
        private static BigInteger[] between(LocalDate a, LocalDate b) {
            if (b.isBefore(a) && a.getDayOfMonth() > 28) {
                return null;
            }
            Period period = Period.between(a, b);
            return span(period.getYears(), period.getMonths(), period.getDays());
        }

        private static void check(int place) {
            if (place < 0 || place > 3) {
                throw new IndexOutOfBoundsException();
            }
        }

        private static void checkRange(int number, int least, int most) {
            if (number < least || number > most) {
                throw new IllegalArgumentException();
            }
        }

        private int act(int card, BigInteger[] span) {
            if (span == null) {
                refusals++;
                return REFUSED;
            }
            int answer = Arrays.equals(cards[card], span) ? 0 : 1;
            cards[card] = span;
            return answer;
        }

        private int actOnDate(int date, LocalDate to) {
            if (to == null) {
                refusals++;
                return REFUSED;
            }
            int answer = dates[date].equals(to) ? 0 : 1;
            dates[date] = to;
            return answer;
        }

        private BigInteger[] changed(int card, int what, BigInteger number) {
            BigInteger[] span = cards[card].clone();
            span[what] = number;
            return told(span);
        }

        private BigInteger[] moreOf(int card, int what, int many, boolean isFar, int sign) {
            BigInteger more = BigInteger.valueOf(many).multiply(BigInteger.valueOf(isFar ? 4000000000L : 1));
            return changed(card, what, cards[card][what].add(more.multiply(BigInteger.valueOf(sign))));
        }

        Object answer(int call, int[] a) {
            if (call == 22) {
                return a[0] >= 0 && a[0] < pile.size() ? text(pile.get(a[0])) : "";
            }
            if (call >= 48) {
                return ofAll(call, a);
            }
            check(a[0]);
            if (takesPlaces(call)) {
                check(a[1]);
            }
            return call < 22 ? ofActs(call, a) : call < 35 ? ofSpans(call, a) : ofDates(call, a);
        }

        private Object ofActs(int call, int[] a) {
            boolean is = a[4] == 1;
            switch (call) {
                case 0: return act(a[0], span(a[1], a[2], a[3]));
                case 1: return act(a[0], span(a[1], 0, 0));
                case 2: return act(a[0], span(0, a[1], 0));
                case 3: return act(a[0], told(span(0, 0, 7L * a[1])));
                case 4: return act(a[0], span(0, 0, a[1]));
                case 5:
                    checkRange(a[1], 0, 2);
                    return act(a[0], changed(a[0], a[1], BigInteger.valueOf(a[2])));
                case 6: return act(a[0], cards[a[1]]);
                case 7:
                    BigInteger[] first = cards[a[0]];
                    int answer = act(a[0], cards[a[1]]);
                    cards[a[1]] = first;
                    return answer;
                case 8: case 9: case 10: return act(a[0], moreOf(a[0], call - 8, a[1], is, 1));
                case 11: case 12: case 13: return act(a[0], moreOf(a[0], call - 11, a[1], is, -1));
                case 14: return act(a[0], plus(cards[a[0]], cards[a[1]], 1));
                case 15: return act(a[0], plus(cards[a[0]], cards[a[1]], -1));
                case 16: return act(a[0], times(cards[a[0]], a[1]));
                case 17: return act(a[0], times(cards[a[0]], -1));
                case 18: return act(a[0], tidy(cards[a[0]]));
                case 19: return lay(a[0]);
                case 20: return take(a[0]);
                default: return act(a[0], sum(pile));
            }
        }

        private int lay(int card) {
            if (pile.size() == 8) {
                refusals++;
                return REFUSED;
            }
            pile.add(cards[card]);
            return pile.size();
        }

        private int take(int card) {
            if (pile.isEmpty()) {
                refusals++;
                return REFUSED;
            }
            cards[card] = pile.remove(pile.size() - 1);
            return pile.size();
        }

        private Object ofSpans(int call, int[] a) {
            BigInteger[] span = cards[a[0]];
            switch (call) {
                case 23:
                    checkRange(a[1], 0, 2);
                    return span[a[1]].intValueExact();
                case 24: return total(span).toString();
                case 25: return isZero(span);
                case 26: return isNegative(span);
                case 27: return Arrays.equals(span, cards[a[1]]);
                case 28: return alike(span, cards[a[1]]);
                case 29: return text(span);
                case 30: return text(times(span, a[1]));
                case 31:
                    checkRange(a[1], 0, 9);
                    return text(times(span, a[1]));
                case 32: return text(plus(span, cards[a[1]], a[4] == 1 ? -1 : 1));
                case 33: return text(tidy(span));
                default: return text(times(span, -1));
            }
        }

        private Object ofDates(int call, int[] a) {
            switch (call) {
                case 35: return setDate(a);
                case 36: return actOnDate(a[0], dates[a[1]]);
                case 37: return actOnDate(a[0], moved(dates[a[0]], cards[a[1]], 1));
                case 38: return actOnDate(a[0], moved(dates[a[0]], cards[a[1]], -1));
                case 39: return walk(a);
                case 40: case 41:
                    check(a[2]);
                    return act(a[0], between(dates[a[1]], dates[a[2]]));
                case 42:
                    checkRange(a[1], 0, 3);
                    return ofDate(dates[a[0]], a[1]);
                case 43: return text(dates[a[0]]);
                case 44: return text(moved(dates[a[0]], cards[a[1]], a[4] == 1 ? -1 : 1));
                case 45: return text(between(dates[a[0]], dates[a[1]]));
                case 46:
                    BigInteger[] span = between(dates[a[0]], dates[a[1]]);
                    return span != null && dates[a[1]].equals(moved(dates[a[0]], span, 1));
                default: return Integer.signum(dates[a[0]].compareTo(dates[a[1]]));
            }
        }

        private int setDate(int[] a) {
            checkRange(a[1], 1600, 2400);
            checkRange(a[2], 1, 12);
            checkRange(a[3], 1, LocalDate.of(a[1], a[2], 1).lengthOfMonth());
            return actOnDate(a[0], LocalDate.of(a[1], a[2], a[3]));
        }

        private int walk(int[] a) {
            checkRange(a[2], 1, 12);
            for (int walked = 0; walked < a[2]; walked++) {
                LocalDate next = moved(dates[a[0]], cards[a[1]], 1);
                if (next == null) {
                    return walked;
                }
                dates[a[0]] = next;
            }
            return a[2];
        }

        private static int ofDate(LocalDate date, int what) {
            long number = ChronoUnit.DAYS.between(LocalDate.of(1970, 1, 1), date);
            int[] parts = {date.getYear(), date.getMonthValue(), date.getDayOfMonth(), (int) number};
            return parts[what];
        }

        private Object ofAll(int call, int[] a) {
            switch (call) {
                case 48: return ++knocks;
                case 49:
                    checkRange(a[0], 0, 4);
                    return house(a[0]);
                case 50: return true;
                default: return digest();
            }
        }

        private int house(int what) {
            int zero = 0;
            int negative = 0;
            for (BigInteger[] span : cards) {
                zero += isZero(span) ? 1 : 0;
                negative += isNegative(span) ? 1 : 0;
            }
            return new int[] {knocks, refusals, pile.size(), zero, negative}[what];
        }

        long digest() {
            List<Long> all = new ArrayList<>();
            for (BigInteger[] span : cards) {
                all.add(span[0].longValue());
                all.add(span[1].longValue());
                all.add(span[2].longValue());
                all.add(total(span).longValue());
                all.add(isZero(span) ? 1L : 0L);
                all.add(isNegative(span) ? 1L : 0L);
                all.add((long) text(span).length());
                all.add((long) text(tidy(span)).length());
                all.add((long) text(times(span, -1)).length());
            }
            for (BigInteger[] n : cards) {
                for (BigInteger[] m : cards) {
                    all.add(Arrays.equals(n, m) ? 1L : 0L);
                    all.add(alike(n, m) ? 1L : 0L);
                }
            }
            for (int k = 0; k < 8; k++) {
                all.add(k < pile.size() ? (long) text(pile.get(k)).length() : 0L);
            }
            for (LocalDate date : dates) {
                for (int what = 0; what < 4; what++) {
                    all.add((long) ofDate(date, what));
                }
                for (BigInteger[] span : cards) {
                    all.add((long) text(moved(date, span, 1)).length());
                    all.add((long) text(moved(date, span, -1)).length());
                }
            }
            for (LocalDate n : dates) {
                for (LocalDate m : dates) {
                    all.add((long) Integer.signum(n.compareTo(m)));
                    all.add((long) text(between(n, m)).length());
                }
            }
            for (int what = 0; what < 5; what++) {
                all.add((long) house(what));
            }
            all.add(1L);
            long d = 6217;
            for (long v : all) {
                d = d * 31 + v;
            }
            return d;
        }
    }
}
