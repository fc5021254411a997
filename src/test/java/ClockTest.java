import java.time.LocalDate;
import java.util.Random;

/** Promises 15 (clock) and 16 (seconds). */
public final class ClockTest {
    private static final ZoneFiles Z = new ZoneFiles();

    public static void main(String[] args) {
        againstJava();
        edges();
        wrongClock();
        wrongSeconds();
        Kit.end();
    }

    private static void sameDay(LocalDate date, int second) {
        long s = date.toEpochDay() * 86400L + second;
        boolean same = Z.clock(s, 0) == date.getYear() && Z.clock(s, 1) == date.getMonthValue() && Z.clock(s, 2) == date.getDayOfMonth()
                && Z.clock(s, 3) == second / 3600 && Z.clock(s, 4) == second / 60 % 60 && Z.clock(s, 5) == second % 60
                && Z.clock(s, 6) == date.getDayOfWeek().getValue() % 7 && Z.clock(s, 7) == date.getDayOfYear();
        Kit.due("clock at " + date + " " + second, same, true);
        Kit.due("seconds of " + date, Z.seconds(date.getYear(), date.getMonthValue(), date.getDayOfMonth(), second), s);
    }

    private static void againstJava() {
        for (LocalDate d = LocalDate.of(-401, 1, 1); d.getYear() < 3; d = d.plusDays(1)) {
            sameDay(d, 86399);
        }
        for (LocalDate d = LocalDate.of(1895, 1, 1); d.getYear() < 2105; d = d.plusDays(1)) {
            sameDay(d, 0);
        }
        Random random = new Random(1);
        for (int i = 0; i < 20000; i++) {
            sameDay(LocalDate.ofEpochDay(random.nextLong() % 365000000000L), random.nextInt(86400));
        }
    }

    private static void edges() {
        for (int what = 0; what < 6; what++) {
            Kit.due("greatest " + what, Z.clock(Kit.GREATEST, what), dateParts(Kit.GREATEST)[what]);
            Kit.due("least " + what, Z.clock(Kit.LEAST, what), dateParts(Kit.LEAST)[what]);
        }
        for (long year : new long[] {-30000000000L, 30000000000L, 29999999999L, -29999999999L}) {
            for (int month = 1; month <= 12; month++) {
                long s = Z.seconds(year, month, 28, 86399);
                Kit.due("year", Z.clock(s, 0), year);
                Kit.due("month", Z.clock(s, 1), month);
                Kit.due("day", Z.clock(s, 2), 28);
                Kit.due("hour", Z.clock(s, 3), 23);
            }
        }
        Kit.due("a long year 0", Z.clock(Z.seconds(0L, 2, 29, 0), 7), 60);
        Kit.due("last day of a long year", Z.clock(Z.seconds(-4L, 12, 31, 0), 7), 366);
    }

    /** 400 years are 146097 days: far years are known from near ones. */
    private static long[] dateParts(long s) {
        long cycle = 146097L * 86400L;
        long cycles = Math.floorDiv(s, cycle);
        long near = s - cycles * cycle;
        LocalDate d = LocalDate.ofEpochDay(near / 86400L);
        long second = near % 86400L;
        return new long[] {d.getYear() + 400L * cycles, d.getMonthValue(), d.getDayOfMonth(), second / 3600, second / 60 % 60, second % 60};
    }

    private static void wrongClock() {
        for (long bad : new long[] {Kit.LEAST - 1, Kit.GREATEST + 1, Long.MIN_VALUE, Long.MAX_VALUE}) {
            Kit.dueThrow("clock", Kit.ARGUMENT, () -> Z.clock(bad, 0));
            Kit.dueThrow("clock", Kit.ARGUMENT, () -> Z.clock(bad, 5));
            Kit.dueThrow("what comes first", Kit.INDEX, () -> Z.clock(bad, 8));
        }
        for (int bad : new int[] {-1, 8, Integer.MIN_VALUE, Integer.MAX_VALUE}) {
            Kit.dueThrow("clock", Kit.INDEX, () -> Z.clock(0L, bad));
        }
    }

    private static void wrongSeconds() {
        for (long bad : new long[] {-30000000001L, 30000000001L, Long.MIN_VALUE, Long.MAX_VALUE}) {
            Kit.dueThrow("year", Kit.ARGUMENT, () -> Z.seconds(bad, 1, 1, 0));
        }
        for (int bad : new int[] {0, 13, -1, Integer.MIN_VALUE, Integer.MAX_VALUE}) {
            Kit.dueThrow("month", Kit.ARGUMENT, () -> Z.seconds(2000L, bad, 1, 0));
        }
        int[] sizes = {31, 28, 31, 30, 31, 30, 31, 31, 30, 31, 30, 31};
        for (int month = 1; month <= 12; month++) {
            int m = month;
            int size = sizes[month - 1];
            Kit.dueThrow("day 0", Kit.ARGUMENT, () -> Z.seconds(2001L, m, 0, 0));
            Kit.dueThrow("day behind", Kit.ARGUMENT, () -> Z.seconds(2001L, m, size + 1, 0));
            Kit.due("last day", Z.clock(Z.seconds(2001L, m, size, 0), 2), size);
        }
        Kit.dueThrow("29th of February", Kit.ARGUMENT, () -> Z.seconds(1900L, 2, 29, 0));
        Kit.dueThrow("29th of February", Kit.ARGUMENT, () -> Z.seconds(-100L, 2, 29, 0));
        Kit.dueThrow("30th of February", Kit.ARGUMENT, () -> Z.seconds(2000L, 2, 30, 0));
        Kit.due("29th of February", Z.seconds(2000L, 2, 29, 5), 951782405L);
        for (int bad : new int[] {-1, 86400, Integer.MIN_VALUE, Integer.MAX_VALUE}) {
            Kit.dueThrow("second", Kit.ARGUMENT, () -> Z.seconds(2000L, 1, 1, bad));
            Kit.dueThrow("day", Kit.ARGUMENT, () -> Z.seconds(2000L, 1, bad, 0));
        }
    }
}
