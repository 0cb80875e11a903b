/**
 * Cards with spans of years, months and days, a pile of such spans, and dates of the calendar that
 * are moved by them. What every call promises stands in the document (../shared/DOC.md); its words
 * (SPAN, TOTAL, TIDY, NUMBER, MOVED and so on) are used here as it uses them.
 */
public final class Periodcard {

    private static final int REFUSED = -9;
    private static final int CARDS = 4;
    private static final int DATES = 4;
    private static final int PILE = 8;

    private static final long LEAST_TOLD = -2147483648L;
    private static final long GREATEST_TOLD = 2147483647L;

    private static final int PARTS_OF_SPAN = 3;
    private static final int PARTS_OF_DATE = 4;
    private static final int PARTS_OF_HOUSE = 5;
    private static final int MOST_ADDED = 9;
    private static final int MOST_WALKED = 12;
    private static final int DAYS_OF_WEEK = 7;
    private static final long FAR = 4000000000L;

    private static final int MONTHS_OF_YEAR = 12;
    private static final int FIRST_YEAR = 1600;
    private static final int LAST_YEAR = 2400;
    private static final int LONG_YEAR_DAYS = 366;
    private static final int YEAR_DAYS = 365;
    /** The last day of the month that every month has. */
    private static final int SAFE_DAY = 28;
    /** How many days 1 January 1970 lies behind 1 January 1600. */
    private static final int DAYS_TO_1970 = 135140;
    /** The NUMBER of 31 December 2400. */
    private static final int LAST_NUMBER = 157419;

    /** So many digits has the TOTAL that is farthest from 0; no number told here has more. */
    private static final int MOST_DIGITS = 11;

    private final Span[] cards = new Span[CARDS];
    private final Span[] pile = new Span[PILE];
    private final Day[] dates = new Day[DATES];
    private int laid;
    private int knocks;
    private int refusals;

    // What is reckoned is put here first: so a refused act leaves its card or date as it was, and
    // no call makes objects but for the text that it answers.
    private final Span result = new Span();
    private final Span proof = new Span();
    private final Day reached = new Day();

    public Periodcard() {
        for (int n = 0; n < CARDS; n++) {
            cards[n] = new Span();
        }
        for (int n = 0; n < PILE; n++) {
            pile[n] = new Span();
        }
        for (int n = 0; n < DATES; n++) {
            dates[n] = new Day();
        }
    }

    // ---- spans are written

    public int write(int card, int years, int months, int days) throws IndexOutOfBoundsException {
        return actOnCard(cardAt(card), result.put(years, months, days));
    }

    public int ofYears(int card, int many) throws IndexOutOfBoundsException {
        return actOnCard(cardAt(card), result.put(many, 0, 0));
    }

    public int ofMonths(int card, int many) throws IndexOutOfBoundsException {
        return actOnCard(cardAt(card), result.put(0, many, 0));
    }

    public int ofWeeks(int card, int many) throws IndexOutOfBoundsException {
        return actOnCard(cardAt(card), result.put(0, 0, (long) many * DAYS_OF_WEEK));
    }

    public int ofDays(int card, int many) throws IndexOutOfBoundsException {
        return actOnCard(cardAt(card), result.put(0, 0, many));
    }

    public int change(int card, int what, int number)
            throws IndexOutOfBoundsException, IllegalArgumentException {
        Span span = cardAt(card);
        checkWhat(what, PARTS_OF_SPAN);
        int years = what == 0 ? number : span.years;
        int months = what == 1 ? number : span.months;
        int days = what == 2 ? number : span.days;
        return actOnCard(span, result.put(years, months, days));
    }

    public int copy(int card, int from) throws IndexOutOfBoundsException {
        Span span = cardAt(card);
        result.putSpan(cardAt(from));
        return actOnCard(span, true);
    }

    public int swap(int card, int other) throws IndexOutOfBoundsException {
        Span span = cardAt(card);
        Span second = cardAt(other);
        result.putSpan(second);
        second.putSpan(span);
        return actOnCard(span, true);
    }

    // ---- spans are reckoned

    public int plusYears(int card, int many, boolean isFar) throws IndexOutOfBoundsException {
        Span span = cardAt(card);
        long more = howMany(many, isFar);
        return actOnCard(span, result.put(span.years + more, span.months, span.days));
    }

    public int plusMonths(int card, int many, boolean isFar) throws IndexOutOfBoundsException {
        Span span = cardAt(card);
        long more = howMany(many, isFar);
        return actOnCard(span, result.put(span.years, span.months + more, span.days));
    }

    public int plusDays(int card, int many, boolean isFar) throws IndexOutOfBoundsException {
        Span span = cardAt(card);
        long more = howMany(many, isFar);
        return actOnCard(span, result.put(span.years, span.months, span.days + more));
    }

    public int minusYears(int card, int many, boolean isFar) throws IndexOutOfBoundsException {
        Span span = cardAt(card);
        long less = howMany(many, isFar);
        return actOnCard(span, result.put(span.years - less, span.months, span.days));
    }

    public int minusMonths(int card, int many, boolean isFar) throws IndexOutOfBoundsException {
        Span span = cardAt(card);
        long less = howMany(many, isFar);
        return actOnCard(span, result.put(span.years, span.months - less, span.days));
    }

    public int minusDays(int card, int many, boolean isFar) throws IndexOutOfBoundsException {
        Span span = cardAt(card);
        long less = howMany(many, isFar);
        return actOnCard(span, result.put(span.years, span.months, span.days - less));
    }

    public int plus(int card, int other) throws IndexOutOfBoundsException {
        Span span = cardAt(card);
        return actOnCard(span, result.putSum(span, cardAt(other)));
    }

    public int minus(int card, int other) throws IndexOutOfBoundsException {
        Span span = cardAt(card);
        return actOnCard(span, result.putDifference(span, cardAt(other)));
    }

    public int multipliedBy(int card, int n) throws IndexOutOfBoundsException {
        Span span = cardAt(card);
        return actOnCard(span, result.putTimes(span, n));
    }

    public int negated(int card) throws IndexOutOfBoundsException {
        Span span = cardAt(card);
        return actOnCard(span, result.putOpposite(span));
    }

    public int normalized(int card) throws IndexOutOfBoundsException {
        Span span = cardAt(card);
        return actOnCard(span, result.putTidy(span));
    }

    // ---- the pile

    public int lay(int card) throws IndexOutOfBoundsException {
        Span span = cardAt(card);
        if (laid >= PILE) {
            return refuse();
        }
        pile[laid].putSpan(span);
        laid++;
        return laid;
    }

    public int take(int card) throws IndexOutOfBoundsException {
        Span span = cardAt(card);
        if (laid < 1) {
            return refuse();
        }
        laid--;
        span.putSpan(pile[laid]);
        return laid;
    }

    public int sum(int card) throws IndexOutOfBoundsException {
        Span span = cardAt(card);
        boolean isDone = result.put(0, 0, 0);
        for (int k = 0; k < laid && isDone; k++) {
            isDone = result.putSum(result, pile[k]);
        }
        return actOnCard(span, isDone);
    }

    public String piled(int k) {
        if (k < 0 || k >= laid) {
            return "";
        }
        return pile[k].inSigns();
    }

    // ---- what is asked of spans

    public int part(int card, int what) throws IndexOutOfBoundsException, IllegalArgumentException {
        Span span = cardAt(card);
        checkWhat(what, PARTS_OF_SPAN);
        return span.number(what);
    }

    public String total(int card) throws IndexOutOfBoundsException {
        return numberInSigns(cardAt(card).allMonths());
    }

    public boolean isZero(int card) throws IndexOutOfBoundsException {
        return cardAt(card).isNothing();
    }

    public boolean isNegative(int card) throws IndexOutOfBoundsException {
        return cardAt(card).isBelowZero();
    }

    public boolean areSame(int card, int other) throws IndexOutOfBoundsException {
        return cardAt(card).isSameAs(cardAt(other));
    }

    public boolean areAlike(int card, int other) throws IndexOutOfBoundsException {
        return cardAt(card).isAlikeTo(cardAt(other));
    }

    public String text(int card) throws IndexOutOfBoundsException {
        return cardAt(card).inSigns();
    }

    public String times(int card, int n) throws IndexOutOfBoundsException {
        return resultInSigns(result.putTimes(cardAt(card), n));
    }

    public String added(int card, int n)
            throws IndexOutOfBoundsException, IllegalArgumentException {
        Span span = cardAt(card);
        if (n < 0 || n > MOST_ADDED) {
            throw new IllegalArgumentException("it can be added 0 to 9 times");
        }
        boolean isDone = result.put(0, 0, 0);
        for (int k = 0; k < n && isDone; k++) {
            isDone = result.putSum(result, span);
        }
        return resultInSigns(isDone);
    }

    public String with(int card, int other, boolean isTaken) throws IndexOutOfBoundsException {
        Span span = cardAt(card);
        Span second = cardAt(other);
        boolean isDone = isTaken ? result.putDifference(span, second) : result.putSum(span, second);
        return resultInSigns(isDone);
    }

    public String tidy(int card) throws IndexOutOfBoundsException {
        return resultInSigns(result.putTidy(cardAt(card)));
    }

    public String opposite(int card) throws IndexOutOfBoundsException {
        return resultInSigns(result.putOpposite(cardAt(card)));
    }

    // ---- dates

    public int date(int date, int year, int month, int day)
            throws IndexOutOfBoundsException, IllegalArgumentException {
        Day target = dateAt(date);
        if (!isInCalendar(year, month, day)) {
            throw new IllegalArgumentException("there is no such day from 1600 to 2400");
        }
        reached.put(year, month, day);
        return actOnDate(target, true);
    }

    public int copyDate(int date, int from) throws IndexOutOfBoundsException {
        Day target = dateAt(date);
        reached.putDay(dateAt(from));
        return actOnDate(target, true);
    }

    public int move(int date, int card) throws IndexOutOfBoundsException {
        Day target = dateAt(date);
        return actOnDate(target, reach(target, cardAt(card), false));
    }

    public int back(int date, int card) throws IndexOutOfBoundsException {
        Day target = dateAt(date);
        return actOnDate(target, reach(target, cardAt(card), true));
    }

    public int walk(int date, int card, int many)
            throws IndexOutOfBoundsException, IllegalArgumentException {
        Day target = dateAt(date);
        Span span = cardAt(card);
        if (many < 1 || many > MOST_WALKED) {
            throw new IllegalArgumentException("it can be walked 1 to 12 times");
        }
        int walked = 0;
        while (walked < many && reach(target, span, false)) {
            target.putDay(reached);
            walked++;
        }
        return walked;
    }

    public int between(int card, int date, int other) throws IndexOutOfBoundsException {
        return actByBetween(card, date, other);
    }

    public int until(int card, int date, int other) throws IndexOutOfBoundsException {
        return actByBetween(card, date, other);
    }

    // ---- what is asked of dates

    public int ofDate(int date, int what)
            throws IndexOutOfBoundsException, IllegalArgumentException {
        Day asked = dateAt(date);
        checkWhat(what, PARTS_OF_DATE);
        return asked.number(what);
    }

    public String dateText(int date) throws IndexOutOfBoundsException {
        return dateAt(date).inSigns();
    }

    public String moved(int date, int card, boolean isBack) throws IndexOutOfBoundsException {
        Day start = dateAt(date);
        return reach(start, cardAt(card), isBack) ? reached.inSigns() : "";
    }

    public String apart(int date, int other) throws IndexOutOfBoundsException {
        Day a = dateAt(date);
        return resultInSigns(result.putBetween(a, dateAt(other)));
    }

    public boolean isToldBack(int date, int other) throws IndexOutOfBoundsException {
        Day a = dateAt(date);
        Day b = dateAt(other);
        return result.putBetween(a, b) && leads(a, result, b);
    }

    public int order(int date, int other) throws IndexOutOfBoundsException {
        Day first = dateAt(date);
        return first.orderTo(dateAt(other));
    }

    // ---- the whole

    public int knock() {
        knocks++;
        return knocks;
    }

    public int house(int what) throws IllegalArgumentException {
        checkWhat(what, PARTS_OF_HOUSE);
        return ofHouse(what);
    }

    public boolean isSound() {
        for (int n = 0; n < CARDS; n++) {
            if (!isSpanSound(cards[n])) {
                return false;
            }
            for (int m = 0; m < CARDS; m++) {
                if (!isSumSound(cards[n], cards[m]) || !isAlikenessSound(cards[n], cards[m])) {
                    return false;
                }
            }
        }
        for (int n = 0; n < DATES; n++) {
            for (int m = 0; m < DATES; m++) {
                // between() and until() share one reckoning: no other answer to hold against it.
                if (result.putBetween(dates[n], dates[m]) && !leads(dates[n], result, dates[m])) {
                    return false;
                }
            }
        }
        return true;
    }

    public long digest() {
        long d = 6217;
        for (int n = 0; n < CARDS; n++) {
            d = digestCard(d, cards[n]);
        }
        d = digestPairsOfCards(d);
        for (int k = 0; k < PILE; k++) {
            d = digestNext(d, k < laid ? pile[k].signs() : 0);
        }
        for (int n = 0; n < DATES; n++) {
            d = digestDate(d, dates[n]);
        }
        d = digestPairsOfDates(d);
        for (int what = 0; what < PARTS_OF_HOUSE; what++) {
            d = digestNext(d, ofHouse(what));
        }
        return digestNext(d, isSound() ? 1 : 0);
    }

    // ---- what an act tells

    private Span cardAt(int card) {
        if (card < 0 || card >= CARDS) {
            throw new IndexOutOfBoundsException("there is no such card");
        }
        return cards[card];
    }

    private Day dateAt(int date) {
        if (date < 0 || date >= DATES) {
            throw new IndexOutOfBoundsException("there is no such date");
        }
        return dates[date];
    }

    private static void checkWhat(int what, int parts) {
        if (what < 0 || what >= parts) {
            throw new IllegalArgumentException("there is no such part to ask of");
        }
    }

    private int refuse() {
        refusals++;
        return REFUSED;
    }

    /** The card gets what was put into the result, if that could be done. */
    private int actOnCard(Span card, boolean isDone) {
        if (!isDone) {
            return refuse();
        }
        if (card.isSameAs(result)) {
            return 0;
        }
        card.putSpan(result);
        return 1;
    }

    /** The date becomes the day that was reached, if that could be done. */
    private int actOnDate(Day date, boolean isDone) {
        if (!isDone) {
            return refuse();
        }
        if (date.orderTo(reached) == 0) {
            return 0;
        }
        date.putDay(reached);
        return 1;
    }

    private int actByBetween(int card, int date, int other) {
        Span span = cardAt(card);
        Day a = dateAt(date);
        return actOnCard(span, result.putBetween(a, dateAt(other)));
    }

    private String resultInSigns(boolean isDone) {
        return isDone ? result.inSigns() : "";
    }

    /** Whether the day can be moved (or moved back) by the span; if so, it comes to reached. */
    private boolean reach(Day start, Span span, boolean isBack) {
        long sign = isBack ? -1 : 1;
        return reached.putMoved(start, sign * span.allMonths(), sign * span.days);
    }

    /** Whether a, moved by the span, comes to b. */
    private boolean leads(Day a, Span span, Day b) {
        return reached.putMoved(a, span.allMonths(), span.days) && reached.orderTo(b) == 0;
    }

    private int ofHouse(int what) {
        switch (what) {
            case 0:
                return knocks;
            case 1:
                return refusals;
            case 2:
                return laid;
            case 3:
                return zeroCards();
            default:
                return negativeCards();
        }
    }

    private int zeroCards() {
        int many = 0;
        for (int n = 0; n < CARDS; n++) {
            many += cards[n].isNothing() ? 1 : 0;
        }
        return many;
    }

    private int negativeCards() {
        int many = 0;
        for (int n = 0; n < CARDS; n++) {
            many += cards[n].isBelowZero() ? 1 : 0;
        }
        return many;
    }

    // ---- whether all is sound

    private boolean isSpanSound(Span span) {
        if (!result.put(span.years, span.months, span.days) || !result.isSameAs(span)) {
            return false;
        }
        if (result.putOpposite(span) && !(proof.putOpposite(result) && proof.isSameAs(span))) {
            return false;
        }
        if (!result.putTidy(span)) {
            return true;
        }
        return result.isAlikeTo(span) && proof.putTidy(result) && proof.isSameAs(result);
    }

    private boolean isSumSound(Span first, Span second) {
        boolean isDone = result.putSum(first, second);
        if (isDone != proof.putSum(second, first)) {
            return false;
        }
        if (!isDone) {
            return true;
        }
        if (!result.isSameAs(proof)) {
            return false;
        }
        return proof.putDifference(result, second) && proof.isSameAs(first);
    }

    private boolean isAlikenessSound(Span first, Span second) {
        if (!result.putOpposite(first) || !proof.putOpposite(second)) {
            return true;
        }
        return result.isAlikeTo(proof) == first.isAlikeTo(second);
    }

    // ---- the checksum

    private static long digestNext(long d, long v) {
        return d * 31 + v;
    }

    private long digestCard(long digest, Span span) {
        long d = digest;
        for (int what = 0; what < PARTS_OF_SPAN; what++) {
            d = digestNext(d, span.number(what));
        }
        d = digestNext(d, span.allMonths());
        d = digestNext(d, span.isNothing() ? 1 : 0);
        d = digestNext(d, span.isBelowZero() ? 1 : 0);
        d = digestNext(d, span.signs());
        d = digestNext(d, resultSigns(result.putTidy(span)));
        return digestNext(d, resultSigns(result.putOpposite(span)));
    }

    private long digestPairsOfCards(long digest) {
        long d = digest;
        for (int n = 0; n < CARDS; n++) {
            for (int m = 0; m < CARDS; m++) {
                d = digestNext(d, cards[n].isSameAs(cards[m]) ? 1 : 0);
                d = digestNext(d, cards[n].isAlikeTo(cards[m]) ? 1 : 0);
            }
        }
        return d;
    }

    private long digestDate(long digest, Day date) {
        long d = digest;
        for (int what = 0; what < PARTS_OF_DATE; what++) {
            d = digestNext(d, date.number(what));
        }
        for (int n = 0; n < CARDS; n++) {
            d = digestNext(d, reach(date, cards[n], false) ? reached.signs() : 0);
            d = digestNext(d, reach(date, cards[n], true) ? reached.signs() : 0);
        }
        return d;
    }

    private long digestPairsOfDates(long digest) {
        long d = digest;
        for (int n = 0; n < DATES; n++) {
            for (int m = 0; m < DATES; m++) {
                d = digestNext(d, dates[n].orderTo(dates[m]));
                d = digestNext(d, resultSigns(result.putBetween(dates[n], dates[m])));
            }
        }
        return d;
    }

    private int resultSigns(boolean isDone) {
        return isDone ? result.signs() : 0;
    }

    // ---- numbers

    /** Always within a long: 4000000000 times the int farthest from 0 is some 8.6 * 10^18. */
    private static long howMany(int many, boolean isFar) {
        return isFar ? many * FAR : many;
    }

    private static boolean canBeTold(long number) {
        return number >= LEAST_TOLD && number <= GREATEST_TOLD;
    }

    private static String numberInSigns(long number) {
        StringBuilder signs = new StringBuilder();
        long rest = number < 0 ? -number : number;
        // The last digit is found first, so the text grows from its end and is turned round.
        for (int place = 0; place < MOST_DIGITS && (place == 0 || rest > 0); place++) {
            signs.append((char) ('0' + rest % 10));
            rest /= 10;
        }
        if (number < 0) {
            signs.append('-');
        }
        signs.reverse();
        return signs.toString();
    }

    /** How many signs a number has as a text (counted, so that the checksum makes no texts). */
    private static int signsOf(int number) {
        long size = number < 0 ? -(long) number : number;
        int signs = number < 0 ? 2 : 1;
        long bound = 10;
        for (int place = 1; place < MOST_DIGITS && bound <= size; place++) {
            signs++;
            bound *= 10;
        }
        return signs;
    }

    // ---- the calendar

    private static boolean isInCalendar(int year, int month, int day) {
        if (year < FIRST_YEAR || year > LAST_YEAR || month < 1 || month > MONTHS_OF_YEAR) {
            return false;
        }
        return day >= 1 && day <= daysOfMonth(year, month);
    }

    private static int daysOfMonth(int year, int month) {
        if (month == 2) {
            boolean isLongYear = year % 4 == 0 && (year % 100 != 0 || year % 400 == 0);
            return isLongYear ? 29 : 28;
        }
        return month == 4 || month == 6 || month == 9 || month == 11 ? 30 : 31;
    }

    /** How many days 1 January of a year lies behind 1 January 1600. */
    private static int daysToYear(int year) {
        int years = year - FIRST_YEAR;
        // 1600 is a long year itself, so the long ones ahead of the year are rounded up.
        return years * YEAR_DAYS + (years + 3) / 4 - (years + 99) / 100 + (years + 399) / 400;
    }

    private static int numberOf(int year, int month, int day) {
        int days = daysToYear(year) - DAYS_TO_1970;
        for (int m = 1; m < month; m++) {
            days += daysOfMonth(year, m);
        }
        return days + day - 1;
    }

    /** The day of the month that a date keeps in another month, or the last one that is there. */
    private static int dayKept(int year, int month, int day) {
        return Math.min(day, daysOfMonth(year, month));
    }

    /** A SPAN, whose numbers always can be told. */
    private static final class Span {
        private int years;
        private int months;
        private int days;

        /** Answers whether all three numbers can be told; if not, the span stays as it was. */
        private boolean put(long newYears, long newMonths, long newDays) {
            if (!canBeTold(newYears) || !canBeTold(newMonths) || !canBeTold(newDays)) {
                return false;
            }
            years = (int) newYears;
            months = (int) newMonths;
            days = (int) newDays;
            return true;
        }

        private void putSpan(Span span) {
            years = span.years;
            months = span.months;
            days = span.days;
        }

        private boolean putSum(Span first, Span second) {
            return put((long) first.years + second.years, (long) first.months + second.months,
                    (long) first.days + second.days);
        }

        private boolean putDifference(Span first, Span second) {
            return put((long) first.years - second.years, (long) first.months - second.months,
                    (long) first.days - second.days);
        }

        private boolean putTimes(Span span, long n) {
            return put(n * span.years, n * span.months, n * span.days);
        }

        private boolean putOpposite(Span span) {
            return putTimes(span, -1);
        }

        private boolean putTidy(Span span) {
            long all = span.allMonths();
            return put(all / MONTHS_OF_YEAR, all % MONTHS_OF_YEAR, span.days);
        }

        /** Puts the SPAN BETWEEN a and b, if it is told. */
        private boolean putBetween(Day a, Day b) {
            int w = b.monthPlace() - a.monthPlace();
            if (b.orderTo(a) >= 0) {
                w -= b.day < a.day ? 1 : 0;
            } else {
                if (a.day > SAFE_DAY) {
                    return false;
                }
                w += b.day > a.day && w < 0 ? 1 : 0;
            }
            int rest = b.dayNumber() - a.dayNumberMonthsOn(w);
            return put(w / MONTHS_OF_YEAR, w % MONTHS_OF_YEAR, rest);
        }

        private int number(int what) {
            return what == 0 ? years : what == 1 ? months : days;
        }

        /** Its TOTAL. */
        private long allMonths() {
            return (long) years * MONTHS_OF_YEAR + months;
        }

        private boolean isNothing() {
            return years == 0 && months == 0 && days == 0;
        }

        private boolean isBelowZero() {
            return years < 0 || months < 0 || days < 0;
        }

        private boolean isSameAs(Span other) {
            return years == other.years && months == other.months && days == other.days;
        }

        private boolean isAlikeTo(Span other) {
            return allMonths() == other.allMonths() && days == other.days;
        }

        private String inSigns() {
            StringBuilder signs = new StringBuilder();
            signs.append(years);
            signs.append("y ");
            signs.append(months);
            signs.append("m ");
            signs.append(days);
            signs.append('d');
            return signs.toString();
        }

        /** How many signs inSigns() has: its three numbers, and "y ", "m " and "d". */
        private int signs() {
            return signsOf(years) + signsOf(months) + signsOf(days) + 5;
        }
    }

    /** A day of the calendar from 1 January 1600 to 31 December 2400. */
    private static final class Day {
        private int year = 2000;
        private int month = 1;
        private int day = 1;

        private void put(int newYear, int newMonth, int newDay) {
            year = newYear;
            month = newMonth;
            day = newDay;
        }

        private void putDay(Day other) {
            put(other.year, other.month, other.day);
        }

        /** Puts the start, so many months on, then so many days; stays if that can not be done. */
        private boolean putMoved(Day start, long months, long days) {
            long place = start.monthPlace() + months;
            if (place < FIRST_YEAR * MONTHS_OF_YEAR || place >= (LAST_YEAR + 1) * MONTHS_OF_YEAR) {
                return false;
            }
            long number = start.dayNumberMonthsOn((int) months) + days;
            if (number < -DAYS_TO_1970 || number > LAST_NUMBER) {
                return false;
            }
            putDayNumber((int) number);
            return true;
        }

        private void putDayNumber(int number) {
            int rest = number + DAYS_TO_1970;
            // Taken as if all years were long ones, the year is too low by a few at the most.
            int found = FIRST_YEAR + rest / LONG_YEAR_DAYS;
            while (found < LAST_YEAR && daysToYear(found + 1) <= rest) {
                found++;
            }
            rest -= daysToYear(found);
            int foundMonth = 1;
            while (foundMonth < MONTHS_OF_YEAR && rest >= daysOfMonth(found, foundMonth)) {
                rest -= daysOfMonth(found, foundMonth);
                foundMonth++;
            }
            put(found, foundMonth, rest + 1);
        }

        /** Counts the months through all years, so that the next month has the next number. */
        private int monthPlace() {
            return year * MONTHS_OF_YEAR + month - 1;
        }

        /** Its NUMBER. */
        private int dayNumber() {
            return numberOf(year, month, day);
        }

        /** The NUMBER so many months on, where the month there is known to be in the calendar. */
        private int dayNumberMonthsOn(int months) {
            int place = monthPlace() + months;
            int thatYear = place / MONTHS_OF_YEAR;
            int thatMonth = place % MONTHS_OF_YEAR + 1;
            return numberOf(thatYear, thatMonth, dayKept(thatYear, thatMonth, day));
        }

        private int number(int what) {
            return what == 0 ? year : what == 1 ? month : what == 2 ? day : dayNumber();
        }

        /** -1 if it is first, 1 if it is last, 0 if both are the same. */
        private int orderTo(Day other) {
            int mine = dayNumber();
            int its = other.dayNumber();
            return mine < its ? -1 : mine > its ? 1 : 0;
        }

        private String inSigns() {
            StringBuilder signs = new StringBuilder();
            signs.append(year);
            signs.append('-');
            signs.append(month);
            signs.append('-');
            signs.append(day);
            return signs.toString();
        }

        /** How many signs inSigns() has: its three numbers, and "-" twice. */
        private int signs() {
            return signsOf(year) + signsOf(month) + signsOf(day) + 2;
        }
    }
}
