/** Promises 15 (clock) and 16 (seconds) at their edges. */
public final class ClockEdgesTest {
    private static final long DAY = 86400L;

    public static void main(String[] args) {
        leastAndGreatest();
        firstAndLast();
        longYears();
        wrongClocks();
        years();
        months();
        daysOfMonths();
        secondsOfDays();
        thereAndBack();
        Kit.end();
    }

    /** Year, month, day, hour, minute, second, day of the week, day of the year. */
    private static void shows(long s, long... parts) {
        ZoneFiles z = new ZoneFiles();
        for (int what = 0; what < parts.length; what++) {
            Kit.due("clock(" + s + ", " + what + ")", z.clock(s, what), parts[what]);
        }
    }

    private static void leastAndGreatest() {
        Kit.sentence(15, "LOCAL SECONDS s (an INSTANT's range)");
        // 2^60 seconds are 91336570 times 400 years (of 146097 days each), 28622 days and 50176 seconds.
        Kit.due("2^60", (91336570L * 146097L + 28622L) * DAY + 50176L, 1L << 60);
        shows(Kit.GREATEST, 2048L + 400L * 91336570L, 5, 13, 13, 56, 15, 3, 134);
        // One time 400 years more lead back to 2291.
        shows(Kit.LEAST, 2291L - 400L * 91336571L, 8, 20, 10, 3, 45, 4, 232);
    }

    private static void firstAndLast() {
        Kit.sentence(15, "the month 1 .. 12 (1), the day 1 .. 31 (2), the hour (3), the minute (4), the second (5)");
        shows(0L, 1970, 1, 1, 0, 0, 0, 4, 1);
        shows(-1L, 1969, 12, 31, 23, 59, 59, 3, 365);
        shows(59L, 1970, 1, 1, 0, 0, 59, 4, 1);
        shows(60L, 1970, 1, 1, 0, 1, 0, 4, 1);
        shows(3599L, 1970, 1, 1, 0, 59, 59, 4, 1);
        shows(3600L, 1970, 1, 1, 1, 0, 0, 4, 1);
        shows(DAY - 1, 1970, 1, 1, 23, 59, 59, 4, 1);
        shows(DAY, 1970, 1, 2, 0, 0, 0, 5, 2);
        shows(-DAY, 1969, 12, 31, 0, 0, 0, 3, 365);
        shows(-DAY - 1, 1969, 12, 30, 23, 59, 59, 2, 364);
        Kit.sentence(15, "the day of the week, 0 a Sunday (6)");
        ZoneFiles z = new ZoneFiles();
        for (long day = -21; day <= 21; day++) {
            Kit.due("day " + day, z.clock(day * DAY, 6), (day + 25) % 7);
            Kit.due("the last second of day " + day, z.clock(day * DAY + DAY - 1, 6), (day + 25) % 7);
        }
        Kit.sentence(15, "the day of the year, 1 .. 366 (7)");
        shows(365 * DAY - 1, 1970, 12, 31, 23, 59, 59, 4, 365);
        shows(365 * DAY, 1971, 1, 1, 0, 0, 0, 5, 1);
        shows(3 * 365 * DAY, 1972, 12, 31, 0, 0, 0, 0, 366);
        shows(3 * 365 * DAY + DAY, 1973, 1, 1, 0, 0, 0, 1, 1);
    }

    private static void longYears() {
        Kit.sentence(15, "Years are those of the Gregorian calendar, before it, too; there is a year 0");
        long[] isLong = {2000, 1600, 400, 0, -400, -4, 4, 1972, 1968, 2024, 2400, 30000000000L, -30000000000L, -29999999996L};
        for (long year : isLong) {
            ZoneFiles z = new ZoneFiles();
            long s = z.seconds(year, 2, 28, 86399);
            Kit.due("the day behind the 28th of February of " + year, z.clock(s + 1, 2), 29);
            Kit.due("the day behind that", z.clock(s + 1 + DAY, 1) * 100 + z.clock(s + 1 + DAY, 2), 301);
            Kit.due("its last day", z.clock(z.seconds(year, 12, 31, 0), 7), 366);
            Kit.due("seconds", z.seconds(year, 2, 29, 0), s + 1);
            Kit.dueThrow("30th of February", Kit.ARGUMENT, () -> z.seconds(year, 2, 30, 0));
        }
        long[] isShort = {1900, 2100, 100, -100, -200, -300, 1, -1, 2, -2, 3, 2023, 1970, 29999999900L, -29999999900L, 29999999999L, -29999999999L};
        for (long year : isShort) {
            ZoneFiles z = new ZoneFiles();
            long s = z.seconds(year, 2, 28, 86399);
            Kit.due("the day behind the 28th of February of " + year, z.clock(s + 1, 1) * 100 + z.clock(s + 1, 2), 301);
            Kit.due("its last day", z.clock(z.seconds(year, 12, 31, 0), 7), 365);
            Kit.dueThrow("29th of February", Kit.ARGUMENT, () -> z.seconds(year, 2, 29, 0));
        }
        Kit.sentence(15, "there is a year 0");
        shows(-62167219200L, 0, 1, 1, 0, 0, 0, 6, 1);
        shows(-62167219201L, -1, 12, 31, 23, 59, 59, 5, 365);
        shows(-62135596801L, 0, 12, 31, 23, 59, 59, 0, 366);
        shows(-62135596800L, 1, 1, 1, 0, 0, 0, 1, 1);
    }

    private static void wrongClocks() {
        ZoneFiles z = new ZoneFiles();
        Kit.sentence(15, "IllegalArgumentException: s is out of that range");
        for (int what = 0; what < 8; what++) {
            int own = what;
            for (long bad : new long[] {Kit.LEAST - 1, Kit.GREATEST + 1, Long.MIN_VALUE, Long.MAX_VALUE}) {
                Kit.dueThrow("clock(" + bad + ", " + what + ")", Kit.ARGUMENT, () -> z.clock(bad, own));
            }
        }
        for (int bad : new int[] {Integer.MIN_VALUE, -1, 8, 9, Integer.MAX_VALUE}) {
            Kit.sentence(15, "IndexOutOfBoundsException: another what");
            Kit.dueThrow("clock(0, " + bad + ")", Kit.INDEX, () -> z.clock(0L, bad));
            Kit.sentence(15, "the one named first when several would do");
            Kit.dueThrow("clock(2^60, " + bad + ")", Kit.INDEX, () -> z.clock(1L << 60, bad));
            Kit.dueThrow("clock(-2^60, " + bad + ")", Kit.INDEX, () -> z.clock(-(1L << 60), bad));
        }
    }

    private static void years() {
        Kit.sentence(16, "the year is not -30000000000 .. 30000000000");
        ZoneFiles z = new ZoneFiles();
        // 75000000 times 400 years, from the years 2000 and 0 on.
        long far = 75000000L * 146097L * DAY;
        Kit.due("the last year", z.seconds(30000000000L, 1, 1, 0), far - 62167219200L);
        Kit.due("its last second", z.seconds(30000000000L, 12, 31, 86399), far - 62135596801L);
        Kit.due("the first year", z.seconds(-30000000000L, 1, 1, 0), -far - 62167219200L);
        for (long bad : new long[] {-30000000001L, 30000000001L, Long.MIN_VALUE, Long.MAX_VALUE, 1L << 40, -(1L << 40)}) {
            Kit.dueThrow("year " + bad, Kit.ARGUMENT, () -> z.seconds(bad, 1, 1, 0));
        }
    }

    private static void months() {
        Kit.sentence(16, "there is no such month");
        ZoneFiles z = new ZoneFiles();
        Kit.due("month 1", z.seconds(1970L, 1, 1, 0), 0L);
        Kit.due("month 12", z.seconds(1970L, 12, 1, 0), 334 * DAY);
        for (int bad : new int[] {Integer.MIN_VALUE, -1, 0, 13, 14, Integer.MAX_VALUE}) {
            Kit.dueThrow("month " + bad, Kit.ARGUMENT, () -> z.seconds(1970L, bad, 1, 0));
            Kit.dueThrow("month " + bad + " of a long year", Kit.ARGUMENT, () -> z.seconds(1972L, bad, 1, 0));
        }
    }

    private static void daysOfMonths() {
        Kit.sentence(16, "there is no such month, day, or second");
        ZoneFiles z = new ZoneFiles();
        int[] sizes = {31, 28, 31, 30, 31, 30, 31, 31, 30, 31, 30, 31};
        for (long year : new long[] {1970L, 1972L}) {
            long start = year == 1970L ? 0L : 730L;
            for (int month = 1; month <= 12; month++) {
                int size = sizes[month - 1] + (year == 1972L && month == 2 ? 1 : 0);
                int own = month;
                Kit.due("day 1 of " + month, z.seconds(year, month, 1, 0), start * DAY);
                Kit.due("the last day of " + month, z.seconds(year, month, size, 0), (start + size - 1) * DAY);
                for (int bad : new int[] {Integer.MIN_VALUE, -1, 0, size + 1, 32, Integer.MAX_VALUE}) {
                    Kit.dueThrow("day " + bad + " of " + month, Kit.ARGUMENT, () -> z.seconds(year, own, bad, 0));
                }
                start += size;
            }
        }
    }

    private static void secondsOfDays() {
        Kit.sentence(16, "a second (0 .. 86399) of a day");
        ZoneFiles z = new ZoneFiles();
        Kit.due("second 0", z.seconds(1970L, 1, 2, 0), DAY);
        Kit.due("second 86399", z.seconds(1970L, 1, 2, 86399), 2 * DAY - 1);
        for (int bad : new int[] {Integer.MIN_VALUE, -1, 86400, Integer.MAX_VALUE}) {
            Kit.dueThrow("second " + bad, Kit.ARGUMENT, () -> z.seconds(1970L, 1, 2, bad));
        }
    }

    /** Around each turn of a year, a hundred and four hundred years. */
    private static void thereAndBack() {
        Kit.sentence(16, "The LOCAL SECONDS of a second (0 .. 86399) of a day");
        long[] years = {-30000000000L, -29999999600L, -401, -400, -399, -101, -100, -99, -1, 0, 1, 99, 100, 101, 399, 400, 401, 1599, 1600, 1601, 1899, 1900,
            1901, 1999, 2000, 2001, 29999999600L, 30000000000L};
        for (long year : years) {
            ZoneFiles z = new ZoneFiles();
            for (int month : new int[] {1, 2, 3, 12}) {
                for (int day : new int[] {1, 28}) {
                    long s = z.seconds(year, month, day, 43210);
                    long[] parts = {year, month, day, 12, 0, 10};
                    for (int what = 0; what < 6; what++) {
                        Kit.due(year + "-" + month + "-" + day + " clock " + what, z.clock(s, what), parts[what]);
                    }
                }
            }
            long turn = z.seconds(year, 1, 1, 0);
            Kit.due("the second before " + year, z.clock(turn - 1, 0), year - 1);
            Kit.due("the day before " + year, z.clock(turn - 1, 1) * 100 + z.clock(turn - 1, 2), 1231);
        }
    }
}
