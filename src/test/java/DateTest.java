import java.time.LocalDate;

/** Promises 37 to 49: dates. */
public final class DateTest {
    private static final int MAX = Integer.MAX_VALUE;
    private static final int MIN = Integer.MIN_VALUE;
    private static final int REFUSED = -9;

    public static void main(String[] args) {
        settingDates();
        everyDay();
        noSuchDay();
        copying();
        moving();
        movingByGreatSpans();
        edgesOfTheCalendar();
        walking();
        spansBetween();
        betweenAsActs();
        asking();
        ordering();
        noSuchDateOrCard();
        Due.end("DateTest");
    }

    private static Periodcard at(int year, int month, int day) {
        Periodcard x = new Periodcard();
        x.date(0, year, month, day);
        return x;
    }

    private static void settingDates() {
        Periodcard x = new Periodcard();
        Due.is("37: the same day", x.date(1, 2000, 1, 1), 0);
        Due.is("37: another day", x.date(1, 2000, 1, 2), 1);
        Due.is("37: another month", x.date(1, 2000, 2, 2), 1);
        Due.is("37: another year", x.date(1, 2001, 2, 2), 1);
        Due.is("37: again", x.date(1, 2001, 2, 2), 0);
        Due.is("37: others stay", x.dateText(0), "2000-1-1");
        Due.is("37: first", x.date(0, 1600, 1, 1), 1);
        Due.is("44: NUMBER of the first", x.ofDate(0, 3), -135140);
        Due.is("37: last", x.date(0, 2400, 12, 31), 1);
        Due.is("44: NUMBER of the last", x.ofDate(0, 3), 157419);
    }

    /** Day by day through the whole calendar: what each date is, and that it is reached by days. */
    private static void everyDay() {
        Periodcard x = new Periodcard();
        LocalDate last = LocalDate.of(2400, 12, 31);
        for (LocalDate day = LocalDate.of(1600, 1, 1); !day.isAfter(last); day = day.plusDays(1)) {
            if (day.getDayOfMonth() == 1) {
                // An object is used for at most 512 calls.
                x = new Periodcard();
            }
            oneDay(x, day);
        }
        Due.is("37: the last day", x.dateText(0), "2400-12-31");
    }

    private static void oneDay(Periodcard x, LocalDate day) {
        x.date(0, day.getYear(), day.getMonthValue(), day.getDayOfMonth());
        if (x.ofDate(0, 3) != day.toEpochDay()) {
            Due.is("44: NUMBER of " + day, (long) x.ofDate(0, 3), day.toEpochDay());
        }
        x.date(1, 1970, 1, 1);
        x.ofDays(0, (int) day.toEpochDay());
        x.move(1, 0);
        if (x.order(0, 1) != 0) {
            Due.is("39: by days to " + day, x.dateText(1), x.dateText(0));
        }
    }

    private static void noSuchDay() {
        Periodcard x = at(2024, 2, 29);
        int[][] days = {{1599, 12, 31}, {2401, 1, 1}, {2024, 0, 1}, {2024, 13, 1}, {2024, 1, 0}, {2024, 1, 32},
            {2024, 2, 30}, {2023, 2, 29}, {1900, 2, 29}, {2100, 2, 29}, {2024, 4, 31}, {2024, 6, 31},
            {2024, 9, 31}, {2024, 11, 31}, {2024, 3, -1}, {MIN, 1, 1}, {2024, MAX, 1}, {2024, 1, MAX},
            {2024, MIN, 31}, {2024, -1, 1}};
        for (int[] day : days) {
            Due.throwsArgument("37: " + day[0] + "-" + day[1] + "-" + day[2],
                () -> x.date(0, day[0], day[1], day[2]));
            Due.throwsIndex("37: the date goes ahead", () -> x.date(4, day[0], day[1], day[2]));
        }
        Due.is("37: nothing changes", x.dateText(0), "2024-2-29");
        int[] lengths = {31, 28, 31, 30, 31, 30, 31, 31, 30, 31, 30, 31};
        for (int month = 1; month <= 12; month++) {
            x.date(0, 2023, month, lengths[month - 1]);
            Due.is("37: the last day of a month", x.ofDate(0, 2), lengths[month - 1]);
        }
        x.date(0, 2000, 2, 29);
        Due.is("37: 2000 is a long year", x.dateText(0), "2000-2-29");
    }

    private static void copying() {
        Periodcard x = at(2024, 2, 29);
        Due.is("38: copyDate", x.copyDate(3, 0), 1);
        Due.is("38: text", x.dateText(3), "2024-2-29");
        Due.is("38: again", x.copyDate(3, 0), 0);
        Due.is("38: of itself", x.copyDate(3, 3), 0);
        x.date(0, 2024, 3, 1);
        Due.is("38: no tie between them", x.dateText(3), "2024-2-29");
    }

    private static void isMoved(String due, String dueBack, int[] day, int[] span) {
        Periodcard x = at(day[0], day[1], day[2]);
        x.write(1, span[0], span[1], span[2]);
        String start = x.dateText(0);
        String call = start + " by " + x.text(1);
        Due.is("46: " + call, x.moved(0, 1, false), due);
        Due.is("46: back " + call, x.moved(0, 1, true), dueBack);
        Due.is("46: the date stays", x.dateText(0), start);
        Due.is("46: not counted", x.house(1), 0);
        int answer = due.isEmpty() ? REFUSED : due.equals(start) ? 0 : 1;
        x.copyDate(2, 0);
        Due.is("39: " + call, x.move(2, 1), answer);
        Due.is("39: text " + call, x.dateText(2), due.isEmpty() ? start : due);
        int answerBack = dueBack.isEmpty() ? REFUSED : dueBack.equals(start) ? 0 : 1;
        x.copyDate(3, 0);
        Due.is("40: " + call, x.back(3, 1), answerBack);
        Due.is("40: text " + call, x.dateText(3), dueBack.isEmpty() ? start : dueBack);
        int refused = (due.isEmpty() ? 1 : 0) + (dueBack.isEmpty() ? 1 : 0);
        Due.is("39, 40: counted " + call, x.house(1), refused);
    }

    private static void moving() {
        isMoved("2024-2-29", "2023-12-31", new int[] {2024, 1, 31}, new int[] {0, 1, 0});
        isMoved("2023-2-28", "2022-12-31", new int[] {2023, 1, 31}, new int[] {0, 1, 0});
        isMoved("2001-2-28", "1999-2-28", new int[] {2000, 2, 29}, new int[] {1, 0, 0});
        isMoved("2004-2-29", "1996-2-29", new int[] {2000, 2, 29}, new int[] {4, 0, 0});
        isMoved("2100-2-28", "1900-2-28", new int[] {2000, 2, 29}, new int[] {100, 0, 0});
        // The months go ahead of the days, both ways.
        isMoved("2024-4-29", "2024-3-1", new int[] {2024, 3, 31}, new int[] {0, 1, -1});
        isMoved("2023-3-1", "2022-12-30", new int[] {2023, 1, 31}, new int[] {0, 1, 1});
        // Years and months are moved by together, as one TOTAL.
        isMoved("2000-1-31", "2000-1-31", new int[] {2000, 1, 31}, new int[] {1, -12, 0});
        isMoved("2000-2-29", "2000-2-29", new int[] {2000, 2, 29}, new int[] {-1, 12, 0});
        isMoved("2025-1-15", "2023-11-15", new int[] {2024, 6, 15}, new int[] {0, 7, 0});
        isMoved("2023-12-15", "2024-12-15", new int[] {2024, 6, 15}, new int[] {0, -6, 0});
        isMoved("2024-3-1", "2024-2-28", new int[] {2024, 2, 29}, new int[] {0, 0, 1});
        isMoved("2025-1-1", "2024-12-30", new int[] {2024, 12, 31}, new int[] {0, 0, 1});
        isMoved("2100-3-1", "2100-2-27", new int[] {2100, 2, 28}, new int[] {0, 0, 1});
    }

    private static void movingByGreatSpans() {
        // 12 times these years is 2 to the power of 34 or so: in an int it would be small again.
        isMoved("", "", new int[] {2000, 1, 1}, new int[] {1 << 30, 0, 0});
        isMoved("", "", new int[] {2000, 1, 1}, new int[] {MAX, MAX, 0});
        isMoved("", "", new int[] {2000, 1, 1}, new int[] {MIN, MIN, 0});
        isMoved("", "", new int[] {2000, 1, 1}, new int[] {0, 0, MIN});
        isMoved("", "", new int[] {2000, 1, 1}, new int[] {0, 0, MAX});
        isMoved("2000-1-1", "2000-1-1", new int[] {2000, 1, 1}, new int[] {178956970, -2147483640, 0});
    }

    private static void edgesOfTheCalendar() {
        isMoved("", "2400-12-30", new int[] {2400, 12, 31}, new int[] {0, 0, 1});
        isMoved("", "2400-11-30", new int[] {2400, 12, 31}, new int[] {0, 1, 0});
        isMoved("1600-1-2", "", new int[] {1600, 1, 1}, new int[] {0, 0, 1});
        isMoved("1600-2-1", "", new int[] {1600, 1, 1}, new int[] {0, 1, 0});
        // The month on the way has to be there, even if the days would lead back.
        isMoved("", "2400-12-16", new int[] {2400, 12, 15}, new int[] {0, 1, -31});
        isMoved("1600-1-1", "", new int[] {1600, 1, 31}, new int[] {0, 1, -59});
        isMoved("1600-1-31", "", new int[] {1600, 1, 31}, new int[] {0, 1, -29});
        isMoved("", "2399-11-30", new int[] {2400, 11, 30}, new int[] {1, 0, 0});
        isMoved("2400-12-31", "1600-12-31", new int[] {2000, 12, 31}, new int[] {400, 0, 0});
        isMoved("", "1600-12-30", new int[] {2000, 12, 31}, new int[] {400, 0, 1});
        isMoved("", "", new int[] {2000, 1, 1}, new int[] {400, 0, 366});
        isMoved("2400-12-31", "", new int[] {2000, 1, 1}, new int[] {400, 0, 365});
        isMoved("", "1600-1-1", new int[] {2400, 12, 31}, new int[] {800, 0, 365});
        isMoved("2400-12-31", "", new int[] {1600, 1, 1}, new int[] {0, 0, 292559});
        isMoved("", "", new int[] {1600, 1, 1}, new int[] {0, 0, 292560});
    }

    private static void walking() {
        Periodcard x = at(2023, 1, 31);
        x.ofMonths(0, 1);
        Due.is("41: again and again", x.walk(0, 0, 2), 2);
        Due.is("41: the 31st is lost on the way", x.dateText(0), "2023-3-28");
        Due.is("41: once", x.walk(0, 0, 1), 1);
        Due.is("41: 12 times", x.walk(0, 0, 12), 12);
        Due.is("41: text", x.dateText(0), "2024-4-28");
        x.date(0, 2400, 10, 31);
        Due.is("41: till it can not be done", x.walk(0, 0, 12), 2);
        Due.is("41: it stays there", x.dateText(0), "2400-12-30");
        Due.is("41: not at all", x.walk(0, 0, 12), 0);
        x.ofDays(1, 0);
        Due.is("41: by nothing", x.walk(0, 1, 12), 12);
        x.ofYears(1, -800);
        Due.is("41: back by years", x.walk(0, 1, 5), 1);
        Due.is("41: text", x.dateText(0), "1600-12-30");
        Due.is("41: not counted", x.house(1), 0);
        Due.throwsArgument("41: many is 0", () -> x.walk(0, 0, 0));
        Due.throwsArgument("41: many is 13", () -> x.walk(0, 0, 13));
        Due.throwsArgument("41: many is below 0", () -> x.walk(0, 0, MIN));
        Due.throwsIndex("41: the date goes ahead", () -> x.walk(4, 0, 0));
        Due.throwsIndex("41: the card goes ahead", () -> x.walk(0, 4, 0));
        Due.is("41: nothing changes", x.dateText(0), "1600-12-30");
    }

    private static void isBetween(String due, int[] a, int[] b) {
        Periodcard x = at(a[0], a[1], a[2]);
        x.date(1, b[0], b[1], b[2]);
        String call = x.dateText(0) + " and " + x.dateText(1);
        Due.is("47: " + call, x.apart(0, 1), due);
        Due.is("47: not counted", x.house(1), 0);
        Due.is("48: " + call, x.isToldBack(0, 1), !due.isEmpty());
        x.write(0, 9, 9, 9);
        x.write(1, 9, 9, 9);
        Due.is("42: " + call, x.between(0, 0, 1), due.isEmpty() ? REFUSED : 1);
        Due.is("43: " + call, x.until(1, 0, 1), due.isEmpty() ? REFUSED : 1);
        Due.is("42: text " + call, x.text(0), due.isEmpty() ? "9y 9m 9d" : due);
        Due.is("43: text " + call, x.text(1), due.isEmpty() ? "9y 9m 9d" : due);
        Due.is("42, 43: counted " + call, x.house(1), due.isEmpty() ? 2 : 0);
    }

    private static void spansBetween() {
        isBetween("0y 0m 0d", new int[] {2024, 2, 29}, new int[] {2024, 2, 29});
        isBetween("0y 0m 0d", new int[] {2024, 1, 31}, new int[] {2024, 1, 31});
        isBetween("0y 0m 30d", new int[] {2024, 1, 1}, new int[] {2024, 1, 31});
        isBetween("0y 1m 2d", new int[] {2024, 1, 31}, new int[] {2024, 3, 2});
        isBetween("1y 2m 3d", new int[] {2023, 1, 1}, new int[] {2024, 3, 4});
        isBetween("0y 11m 30d", new int[] {2023, 1, 2}, new int[] {2024, 1, 1});
        isBetween("0y 0m 29d", new int[] {2024, 1, 31}, new int[] {2024, 2, 29});
        isBetween("0y 0m 28d", new int[] {2023, 1, 31}, new int[] {2023, 2, 28});
        isBetween("0y 1m 1d", new int[] {2023, 1, 31}, new int[] {2023, 3, 1});
        isBetween("1y 0m 1d", new int[] {2024, 2, 29}, new int[] {2025, 3, 1});
        isBetween("0y 11m 30d", new int[] {2024, 2, 29}, new int[] {2025, 2, 28});
        isBetween("800y 11m 30d", new int[] {1600, 1, 1}, new int[] {2400, 12, 31});
        isBetween("-1y -2m -3d", new int[] {2024, 3, 4}, new int[] {2023, 1, 1});
        isBetween("0y 0m -24d", new int[] {2024, 3, 15}, new int[] {2024, 2, 20});
        isBetween("0y -1m -5d", new int[] {2024, 3, 15}, new int[] {2024, 2, 10});
        isBetween("0y -1m 0d", new int[] {2024, 3, 28}, new int[] {2024, 2, 28});
        isBetween("0y 0m -28d", new int[] {2024, 3, 28}, new int[] {2024, 2, 29});
        isBetween("0y 0m -1d", new int[] {2024, 3, 28}, new int[] {2024, 3, 27});
        isBetween("0y -11m -30d", new int[] {2025, 1, 1}, new int[] {2024, 1, 2});
        isBetween("-1y -1m 0d", new int[] {2024, 2, 28}, new int[] {2023, 1, 28});
        isBetween("", new int[] {2024, 3, 29}, new int[] {2024, 3, 28});
        isBetween("", new int[] {2024, 3, 31}, new int[] {2024, 2, 29});
        isBetween("", new int[] {2400, 12, 31}, new int[] {1600, 1, 1});
        isBetween("-800y -11m -27d", new int[] {2400, 12, 28}, new int[] {1600, 1, 1});
    }

    private static void betweenAsActs() {
        Periodcard x = at(2024, 3, 15);
        x.date(1, 2024, 4, 15);
        Due.is("42: another span", x.between(3, 0, 1), 1);
        Due.is("42: again", x.between(3, 0, 1), 0);
        Due.is("43: the same span", x.until(3, 0, 1), 0);
        Due.is("43: the other way", x.until(3, 1, 0), 1);
        Due.is("43: text", x.text(3), "0y -1m 0d");
        Due.is("42: a date and itself", x.between(3, 1, 1), 1);
        Due.is("42: nothing", x.text(3), "0y 0m 0d");
        Due.is("42: the dates stay", x.dateText(0) + x.dateText(1), "2024-3-152024-4-15");
    }

    private static void asking() {
        Periodcard x = at(1969, 12, 31);
        int[] due = {1969, 12, 31, -1};
        for (int what = 0; what < due.length; what++) {
            Due.is("44: " + what, x.ofDate(0, what), due[what]);
        }
        Due.is("45: text", x.dateText(0), "1969-12-31");
        Due.is("45: no 0 ahead", at(2024, 2, 9).dateText(0), "2024-2-9");
        Due.throwsArgument("44: what is 4", () -> x.ofDate(0, 4));
        Due.throwsArgument("44: what is -1", () -> x.ofDate(0, -1));
        Due.throwsIndex("44: the date goes ahead", () -> x.ofDate(4, 4));
    }

    private static void ordering() {
        Periodcard x = at(2024, 3, 15);
        int[][] later = {{2024, 3, 16}, {2024, 4, 1}, {2025, 1, 1}};
        for (int[] day : later) {
            x.date(1, day[0], day[1], day[2]);
            Due.is("49: first", x.order(0, 1), -1);
            Due.is("49: last", x.order(1, 0), 1);
        }
        x.date(1, 2024, 3, 15);
        Due.is("49: both are the same", x.order(0, 1), 0);
        Due.is("49: itself", x.order(1, 1), 0);
    }

    private static void noSuchDateOrCard() {
        Periodcard x = new Periodcard();
        x.date(0, 2000, 1, 31);
        for (int n : new int[] {-1, 4, MAX, MIN}) {
            Due.throwsIndex("37", () -> x.date(n, 2000, 1, 2));
            Due.throwsIndex("38", () -> x.copyDate(n, 0));
            Due.throwsIndex("38: from", () -> x.copyDate(0, n));
            Due.throwsIndex("39", () -> x.move(n, 0));
            Due.throwsIndex("39: card", () -> x.move(0, n));
            Due.throwsIndex("40", () -> x.back(n, 0));
            Due.throwsIndex("40: card", () -> x.back(0, n));
            Due.throwsIndex("41", () -> x.walk(n, 0, 1));
            Due.throwsIndex("41: card", () -> x.walk(0, n, 1));
            Due.throwsIndex("42", () -> x.between(n, 0, 1));
            Due.throwsIndex("42: date", () -> x.between(0, n, 1));
            Due.throwsIndex("42: other", () -> x.between(0, 0, n));
            Due.throwsIndex("43", () -> x.until(n, 0, 1));
            Due.throwsIndex("43: date", () -> x.until(0, n, 1));
            Due.throwsIndex("43: other", () -> x.until(0, 0, n));
            Due.throwsIndex("44", () -> x.ofDate(n, 0));
            Due.throwsIndex("45", () -> x.dateText(n));
            Due.throwsIndex("46", () -> x.moved(n, 0, true));
            Due.throwsIndex("46: card", () -> x.moved(0, n, false));
            Due.throwsIndex("47", () -> x.apart(n, 0));
            Due.throwsIndex("47: other", () -> x.apart(0, n));
            Due.throwsIndex("48", () -> x.isToldBack(n, 0));
            Due.throwsIndex("48: other", () -> x.isToldBack(0, n));
            Due.throwsIndex("49", () -> x.order(n, 0));
            Due.throwsIndex("49: other", () -> x.order(0, n));
        }
        Due.is("37 to 49: not counted", x.house(1), 0);
        Due.is("37 to 49: nothing changes", x.dateText(0) + x.dateText(1) + x.house(3), "2000-1-312000-1-14");
    }
}
