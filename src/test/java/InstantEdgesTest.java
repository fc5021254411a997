/** Promises 13 (at), 14 (name) and 17 to 20 (find, found, next, last) at their edges, and the RULES' days and times. */
public final class InstantEdgesTest {
    private static final long DAY = 86400L;
    private static final int[] NO_ZONES = {Integer.MIN_VALUE, -1, 4, Integer.MAX_VALUE};
    private static final long[] NO_INSTANTS = {Long.MIN_VALUE, Kit.LEAST - 1, Kit.GREATEST + 1, Long.MAX_VALUE};

    public static void main(String[] args) {
        leastAndGreatest();
        wrongAt();
        wrongNames();
        wrongFinds();
        wrongSteps();
        whatZonesHave();
        nothing();
        names();
        offsetsOfRules();
        timesOfRules();
        daysWithout29th();
        countedDays();
        daysOfMonths();
        edgesInOtherYears();
        sameInstant();
        steps();
        whatIsNoStep();
        stepsAtTheEnds();
        stepsOfRules();
        rareSteps();
        stepsAtTheLastTime();
        finds();
        findsAtTheEnds();
        mostFound();
        found();
        Kit.end();
    }

    private static void has(ZoneFiles z, long t, int offset, int dst, String name, int type) {
        Kit.due("at(0, " + t + ", 0)", z.at(0, t, 0), offset);
        Kit.due("at(0, " + t + ", 1)", z.at(0, t, 1), dst);
        Kit.due("at(0, " + t + ", 2)", z.at(0, t, 2), name.length());
        Kit.due("at(0, " + t + ", 3)", z.at(0, t, 3), type);
        Kit.due("name at " + t, Kit.nameAt(z, 0, t), name);
    }

    private static void hasNothing(ZoneFiles z, long t) {
        for (int what = 0; what < 4; what++) {
            Kit.due("at(0, " + t + ", " + what + ")", z.at(0, t, what), ZoneFiles.NONE);
        }
        Kit.dueThrow("name(0, " + t + ", 0)", Kit.STATE, () -> z.name(0, t, 0));
    }

    /** A ZONE of three types, of all kinds of changes; it has a RULE or none. */
    private static Kit.Tape zone(String rule, long... times) {
        Kit.Tape tape = new Kit.Tape();
        tape.types = new int[][] {{-100, 0, 0}, {3600, 1, 4}, {0, 0, 8}};
        tape.chars = "LMT\0DEF\0ABC\0";
        tape.times = times;
        tape.timeTypes = new int[times.length];
        for (int i = 0; i < times.length; i++) {
            tape.timeTypes[i] = (times.length - i) % 2 == 1 ? 2 : 1;
        }
        tape.rule = rule;
        return tape;
    }

    private static void leastAndGreatest() {
        ZoneFiles z = new ZoneFiles();
        for (long t : new long[] {Kit.LEAST, Kit.GREATEST}) {
            Kit.sentence(13, "above -2^60 and below 2^60");
            has(z, t, 0, 0, "UTC", -1);
            Kit.sentence(17, "above -2^60 and below 2^60");
            Kit.due("find(0, " + t + ")", z.find(0, t), 1);
            Kit.due("found(0)", z.found(0), t);
            Kit.sentence(19, "above -2^60 and below 2^60");
            Kit.due("next(0, " + t + ")", z.next(0, t), ZoneFiles.NEVER);
            Kit.sentence(20, "above -2^60 and below 2^60");
            Kit.due("last(0, " + t + ")", z.last(0, t), ZoneFiles.NEVER);
        }
    }

    private static void wrongAt() {
        ZoneFiles z = new ZoneFiles();
        Kit.sentence(13, "IllegalArgumentException: t is no INSTANT");
        for (long bad : NO_INSTANTS) {
            for (int what = 0; what < 4; what++) {
                int own = what;
                Kit.dueThrow("at(3, " + bad + ", " + what + ")", Kit.ARGUMENT, () -> z.at(3, bad, own));
            }
        }
        Kit.sentence(13, "IndexOutOfBoundsException: also of what");
        for (int bad : new int[] {Integer.MIN_VALUE, -1, 4, 5, Integer.MAX_VALUE}) {
            Kit.dueThrow("at(0, 0, " + bad + ")", Kit.INDEX, () -> z.at(0, 0L, bad));
            Kit.dueThrow("at(0, 2^60, " + bad + ")", Kit.INDEX, () -> z.at(0, 1L << 60, bad));
        }
        for (int bad : NO_ZONES) {
            Kit.dueThrow("at(" + bad + ", 0, 0)", Kit.INDEX, () -> z.at(bad, 0L, 0));
            Kit.dueThrow("at(" + bad + ", 2^60, 9)", Kit.INDEX, () -> z.at(bad, 1L << 60, 9));
        }
    }

    private static void wrongNames() {
        ZoneFiles z = Kit.filed(zone("", 5L));
        Kit.sentence(14, "IllegalStateException: there is no such byte, or the ZONE has nothing");
        for (int bad : new int[] {Integer.MIN_VALUE, -1, 3, 4, Integer.MAX_VALUE}) {
            Kit.dueThrow("name(0, 4, " + bad + ")", Kit.STATE, () -> z.name(0, 4L, bad));
            Kit.dueThrow("name(1, 4, " + bad + ") by a RULE", Kit.STATE, () -> z.name(1, 4L, bad));
            Kit.dueThrow("name(0, 5, " + bad + ")", Kit.STATE, () -> z.name(0, 5L, bad));
        }
        Kit.dueThrow("name(0, 5, 0)", Kit.STATE, () -> z.name(0, 5L, 0));
        Kit.sentence(14, "the one named first when several would do");
        for (long t : NO_INSTANTS) {
            Kit.dueThrow("name(0, " + t + ", 0)", Kit.ARGUMENT, () -> z.name(0, t, 0));
            Kit.dueThrow("name(0, " + t + ", 9)", Kit.ARGUMENT, () -> z.name(0, t, 9));
            for (int bad : NO_ZONES) {
                Kit.dueThrow("name(" + bad + ", " + t + ", 0)", Kit.INDEX, () -> z.name(bad, t, 0));
                Kit.dueThrow("name(" + bad + ", 0, 9)", Kit.INDEX, () -> z.name(bad, 0L, 9));
            }
        }
    }

    private static void wrongFinds() {
        ZoneFiles z = Kit.ruled("ABC1", false);
        Kit.due("find", z.find(0, 0L), 1);
        Kit.sentence(17, "IllegalArgumentException: s is out of an INSTANT's range");
        for (long bad : NO_INSTANTS) {
            Kit.dueThrow("find(0, " + bad + ")", Kit.ARGUMENT, () -> z.find(0, bad));
            for (int zone : NO_ZONES) {
                Kit.dueThrow("find(" + zone + ", " + bad + ")", Kit.INDEX, () -> z.find(zone, bad));
            }
        }
        for (int zone : NO_ZONES) {
            Kit.dueThrow("find(" + zone + ", 5)", Kit.INDEX, () -> z.find(zone, 5L));
        }
        Kit.sentence(18, "A call that throws changes nothing");
        Kit.due("found(0)", z.found(0), 3600L);
        Kit.dueThrow("found(1)", Kit.INDEX, () -> z.found(1));
    }

    private static void wrongSteps() {
        ZoneFiles z = Kit.ruled("ABC0DEF,J100,J200", false);
        for (long bad : NO_INSTANTS) {
            Kit.sentence(19, "IllegalArgumentException: t is no INSTANT");
            Kit.dueThrow("next(0, " + bad + ")", Kit.ARGUMENT, () -> z.next(0, bad));
            Kit.sentence(20, "IndexOutOfBoundsException, IllegalArgumentException as before");
            Kit.dueThrow("last(0, " + bad + ")", Kit.ARGUMENT, () -> z.last(0, bad));
            for (int zone : NO_ZONES) {
                Kit.sentence(19, "the one named first when several would do");
                Kit.dueThrow("next(" + zone + ", " + bad + ")", Kit.INDEX, () -> z.next(zone, bad));
                Kit.dueThrow("next(" + zone + ", 0)", Kit.INDEX, () -> z.next(zone, 0L));
                Kit.sentence(20, "the one named first when several would do");
                Kit.dueThrow("last(" + zone + ", " + bad + ")", Kit.INDEX, () -> z.last(zone, bad));
                Kit.dueThrow("last(" + zone + ", 0)", Kit.INDEX, () -> z.last(zone, 0L));
            }
        }
    }

    private static void whatZonesHave() {
        ZoneFiles z = Kit.filed(zone("ABC0DEF,J100/0,J200/0", 10L, 20L, 30L));
        Kit.sentence(13, "with times: before the first one what type 0 tells");
        has(z, Kit.LEAST, -100, 0, "LMT", 0);
        has(z, 9L, -100, 0, "LMT", 0);
        Kit.sentence(13, "from each on, before the next, what its type tells");
        has(z, 10L, 0, 0, "ABC", 2);
        has(z, 19L, 0, 0, "ABC", 2);
        has(z, 20L, 3600, 1, "DEF", 1);
        has(z, 29L, 3600, 1, "DEF", 1);
        Kit.sentence(13, "from the last one on what the RULE tells");
        has(z, 30L, 0, 0, "ABC", -1);
        has(z, 99L * DAY - 1, 0, 0, "ABC", -1);
        has(z, 99L * DAY, 3600, 1, "DEF", -1);
        Kit.sentence(13, "Without times: what the RULE tells");
        ZoneFiles ruled = Kit.filed(zone("ABC0DEF,J100/0,J200/0"));
        has(ruled, 0L, 0, 0, "ABC", -1);
        has(ruled, 99L * DAY, 3600, 1, "DEF", -1);
        Kit.sentence(13, "and without one what type 0 tells");
        ZoneFiles plain = Kit.filed(zone(""));
        has(plain, Kit.LEAST, -100, 0, "LMT", 0);
        has(plain, 0L, -100, 0, "LMT", 0);
        has(plain, Kit.GREATEST, -100, 0, "LMT", 0);
        Kit.Tape summer = zone("");
        summer.types[0] = new int[] {93599, 1, 4};
        has(Kit.filed(summer), 0L, 93599, 1, "DEF", 0);
        Kit.sentence(13, "from each on, before the next, what its type tells");
        ZoneFiles full = new ZoneFiles();
        Kit.due("a full ZONE", Kit.read(full, 0, Kit.full(50).bytes()), 0);
        for (int i : new int[] {0, 1, 100, 197, 198}) {
            has(full, 1000L * i - 7L, 60 * (i % 40), i & 1, "abcd", i % 40);
            has(full, 1000L * i + 992L, 60 * (i % 40), i & 1, "abcd", i % 40);
        }
        hasNothing(full, 1000L * 199L - 7L);
    }

    private static void nothing() {
        Kit.sentence(13, "and without one nothing (NONE)");
        ZoneFiles z = Kit.filed(zone("", 10L, 20L));
        has(z, 9L, -100, 0, "LMT", 0);
        has(z, 10L, 3600, 1, "DEF", 1);
        has(z, 19L, 3600, 1, "DEF", 1);
        hasNothing(z, 20L);
        hasNothing(z, Kit.GREATEST);
        ZoneFiles one = Kit.filed(zone("", Kit.LEAST));
        hasNothing(one, Kit.LEAST);
        hasNothing(one, Kit.GREATEST);
        ZoneFiles late = Kit.filed(zone("", Kit.GREATEST));
        has(late, Kit.GREATEST - 1, -100, 0, "LMT", 0);
        hasNothing(late, Kit.GREATEST);
        Kit.Tape old = zone("", 10L);
        old.version = 0;
        ZoneFiles w = Kit.filed(old);
        has(w, 9L, -100, 0, "LMT", 0);
        hasNothing(w, 10L);
    }

    private static void names() {
        Kit.sentence(14, "Byte i of the NAME that a ZONE has at an INSTANT");
        ZoneFiles z = Kit.ruled("<+-9>0ABCDEFGHIJ,J100/0,J200/0", false);
        for (int i = 0; i < 3; i++) {
            Kit.due("byte " + i, z.name(0, 0L, i), "+-9".charAt(i));
        }
        for (int i = 0; i < 10; i++) {
            Kit.due("byte " + i, z.name(0, 99L * DAY, i), 'A' + i);
        }
        Kit.dueThrow("byte 3 of the first", Kit.STATE, () -> z.name(0, 0L, 3));
        Kit.dueThrow("byte 10 of the second", Kit.STATE, () -> z.name(0, 99L * DAY, 10));
        Kit.Tape tape = new Kit.Tape();
        tape.chars = "XABCDEFGHI\0";
        tape.types = new int[][] {{0, 0, 7}};
        ZoneFiles type = Kit.filed(tape);
        Kit.due("the first byte of a type's", type.name(0, 0L, 0), 'G');
        Kit.due("the last byte of a type's", type.name(0, 0L, 2), 'I');
        Kit.dueThrow("the 0 behind it", Kit.STATE, () -> type.name(0, 0L, 3));
        Kit.dueThrow("a byte before it", Kit.STATE, () -> type.name(0, 0L, -1));
    }

    private static void offsetsOfRules() {
        Kit.sentence(13, "the first NAME, with its OFFSET turned (5 tells -18000), and DST 0, is the STANDARD");
        has(Kit.ruled("ABC5", false), 0L, -18000, 0, "ABC", -1);
        has(Kit.ruled("ABC-24:59:59", false), 0L, 89999, 0, "ABC", -1);
        has(Kit.ruled("ABC24:59:59", false), 0L, -89999, 0, "ABC", -1);
        Kit.sentence(13, "the second NAME, with its own OFFSET turned, or one hour more than the STANDARD's, and DST 1, the SUMMER");
        has(Kit.ruled("ABC5DEF,J1,J365", false), 180 * DAY, -14400, 1, "DEF", -1);
        has(Kit.ruled("ABC5DEF5,J1,J365", false), 180 * DAY, -18000, 1, "DEF", -1);
        has(Kit.ruled("ABC5DEF0,J1,J365", false), 180 * DAY, 0, 1, "DEF", -1);
        has(Kit.ruled("ABC-24:59:59DEF,J1,J365", false), 180 * DAY, 93599, 1, "DEF", -1);
        has(Kit.ruled("ABC5DEF24:59:59,J1,J365", false), 180 * DAY, -89999, 1, "DEF", -1);
    }

    /** From the first moment on SUMMER, before the second one; both in 1970, or near it. */
    private static void summer(String text, long begin, long end) {
        ZoneFiles z = Kit.ruled(text, true);
        Kit.due(text + " before its beginning", z.at(0, begin - 1, 1), 0);
        Kit.due(text + " at its beginning", z.at(0, begin, 1), 1);
        Kit.due(text + " before its end", z.at(0, end - 1, 1), 1);
        Kit.due(text + " at its end", z.at(0, end, 1), 0);
        Kit.due(text + " next", z.next(0, begin - 1), begin);
        Kit.due(text + " next", z.next(0, begin), end);
        Kit.due(text + " last", z.last(0, end), begin);
        Kit.due(text + " last", z.last(0, end + 1), end);
    }

    private static void timesOfRules() {
        Kit.sentence(13, "2 hours, when none is told");
        summer("ABC0DEF0,J100,J200", 99 * DAY + 7200, 199 * DAY + 7200);
        Kit.sentence(13, "when a clock that shows STANDARD time shows the first DAY's TIME");
        summer("ABC0DEF,J100/0,J200/0", 99 * DAY, 199 * DAY - 3600);
        summer("ABC5DEF,J100/0,J200/0", 99 * DAY + 18000, 199 * DAY + 14400);
        summer("ABC-5DEF,J100/0,J200/0", 99 * DAY - 18000, 199 * DAY - 21600);
        summer("ABC24:59:59DEF-24:59:59,J100/0,J200/0", 99 * DAY + 89999, 199 * DAY - 89999);
        Kit.sentence(13, "and ENDS when one that shows SUMMER time shows the second DAY's");
        summer("ABC0DEF-10,J100/0,J200/3", 99 * DAY, 199 * DAY - 25200);
        summer("ABC0DEF10,J100/0,J200/3", 99 * DAY, 199 * DAY + 46800);
        Kit.sentence(13, "it may be below 0, or beyond 24 hours");
        summer("ABC0DEF0,J100/24:59:59,J200/24", 100 * DAY + 3599, 200 * DAY);
        summer("ABC0DEF0,J100/-0:00:01,J200/-1", 99 * DAY - 1, 199 * DAY - 3600);
        summer("ABC0DEF0,J100/167:59:59,J200/167", 106 * DAY - 1, 206 * DAY - 3600);
        summer("ABC0DEF0,J100/-167:59:59,J200/-167", 92 * DAY + 1, 192 * DAY + 3600);
    }

    /** A DAY is told for its own year, as a beginning and as an end; the other one is far from it. */
    private static void dayIs(String day, int year, int month, int dayOfMonth) {
        String far = month > 3 && month < 10 ? "J1" : "J180";
        ZoneFiles z = new ZoneFiles();
        long t = z.seconds(year, month, dayOfMonth, 0);
        Kit.due("rule", Kit.rule(z, 0, "ABC0DEF0," + day + "/0," + far + "/0", false), 0);
        Kit.due(day + " of " + year + " begins", z.at(0, t, 1) - z.at(0, t - 1, 1), 1);
        Kit.due(day + " of " + year + " next", z.next(0, t - 1), t);
        Kit.due("rule", Kit.rule(z, 0, "ABC0DEF0," + far + "/0," + day + "/0", false), 0);
        Kit.due(day + " of " + year + " ends", z.at(0, t, 1) - z.at(0, t - 1, 1), -1);
        Kit.due(day + " of " + year + " last", z.last(0, t + 1), t);
    }

    private static void daysWithout29th() {
        Kit.sentence(13, "J n: the n-th day of a year in which no 29th of February is counted");
        for (int year : new int[] {1900, 1970, 1972, 2000, 2100, 0, -4, -100}) {
            dayIs("J1", year, 1, 1);
            dayIs("J31", year, 1, 31);
            dayIs("J32", year, 2, 1);
            dayIs("J59", year, 2, 28);
            dayIs("J60", year, 3, 1);
            dayIs("J61", year, 3, 2);
            dayIs("J364", year, 12, 30);
            dayIs("J365", year, 12, 31);
        }
    }

    private static void countedDays() {
        Kit.sentence(13, "n: n days behind the first one (365 of a short year: the first one of the next)");
        for (int year : new int[] {1900, 1970, 2100, -1}) {
            dayIs("0", year, 1, 1);
            dayIs("58", year, 2, 28);
            dayIs("59", year, 3, 1);
            dayIs("60", year, 3, 2);
            dayIs("364", year, 12, 31);
            dayIs("365", year + 1, 1, 1);
        }
        for (int year : new int[] {1972, 2000, 0, -400}) {
            dayIs("0", year, 1, 1);
            dayIs("58", year, 2, 28);
            dayIs("59", year, 2, 29);
            dayIs("60", year, 3, 1);
            dayIs("364", year, 12, 30);
            dayIs("365", year, 12, 31);
        }
    }

    private static void daysOfMonths() {
        Kit.sentence(13, "M m . w . d: in month m the w-th day, or if there is none the last one, that is d (0 a Sunday)");
        // 1970 begins on a Thursday, its February on a Sunday.
        dayIs("M1.1.4", 1970, 1, 1);
        dayIs("M1.1.3", 1970, 1, 7);
        dayIs("M1.4.4", 1970, 1, 22);
        dayIs("M1.5.4", 1970, 1, 29);
        dayIs("M1.5.6", 1970, 1, 31);
        dayIs("M1.5.0", 1970, 1, 25);
        dayIs("M2.1.0", 1970, 2, 1);
        dayIs("M2.1.6", 1970, 2, 7);
        dayIs("M2.4.0", 1970, 2, 22);
        dayIs("M2.5.0", 1970, 2, 22);
        dayIs("M2.5.6", 1970, 2, 28);
        dayIs("M3.1.0", 1970, 3, 1);
        dayIs("M4.5.4", 1970, 4, 30);
        dayIs("M4.5.5", 1970, 4, 24);
        dayIs("M12.5.4", 1970, 12, 31);
        dayIs("M12.5.5", 1970, 12, 25);
        dayIs("M12.1.2", 1970, 12, 1);
        // The February of 1972 has 29 days, from a Tuesday to a Tuesday.
        dayIs("M2.5.2", 1972, 2, 29);
        dayIs("M2.4.2", 1972, 2, 22);
        dayIs("M2.5.1", 1972, 2, 28);
        dayIs("M2.5.3", 1972, 2, 23);
        dayIs("M3.1.3", 1972, 3, 1);
        dayIs("M2.5.4", 1900, 2, 22);
        dayIs("M2.5.3", 1900, 2, 28);
        dayIs("M2.5.2", 2000, 2, 29);
    }

    private static void edgesInOtherYears() {
        Kit.sentence(13, "In each year the SUMMER BEGINS");
        ZoneFiles z = new ZoneFiles();
        // The beginning of 1971 lies in 1970, by TIME and OFFSET.
        summer("ABC-24:59:59DEF,0/-167:59:59,J100/0", 357 * DAY + 1 + DAY - 89999, 365 * DAY + 99 * DAY - 93599);
        // The end of 1970 lies in 1971, and the beginning of 1971 comes before it.
        summer("ABC0DEF24:59:59,J300/0,365/167:59:59", 299 * DAY, 372 * DAY - 1 + 89999);
        Kit.sentence(13, "if the last of all beginnings and ends up to it is a beginning");
        Kit.due("rule", Kit.rule(z, 0, "ABC0DEF0,J365/167,J1/-167", true), 0);
        long begin = 364 * DAY + 167 * 3600;
        long end = 365 * DAY - 167 * 3600;
        Kit.due("the end of 1971 comes first", z.at(0, end, 1), 0);
        Kit.due("before it", z.at(0, end - 1, 1), 1);
        Kit.due("then the beginning of 1970", z.at(0, begin, 1), 1);
        Kit.due("before it", z.at(0, begin - 1, 1), 0);
        Kit.due("a whole year of SUMMER", z.next(0, begin), end + 365 * DAY);
        Kit.due("and some days without", z.next(0, end), begin);
    }

    private static void sameInstant() {
        Kit.sentence(13, "of a beginning and an end at the same INSTANT the beginning counts");
        ZoneFiles always = Kit.ruled("ABC0DEF,J100/2,J100/3", false);
        for (long t : new long[] {Kit.LEAST, 99 * DAY + 7199, 99 * DAY + 7200, 99 * DAY + 7201, Kit.GREATEST}) {
            Kit.due("SUMMER at " + t, always.at(0, t, 1), 1);
        }
        summer("ABC0DEF,J100/2,J100/3:00:01", 99 * DAY + 7200, 99 * DAY + 7201);
        ZoneFiles less = Kit.ruled("ABC0DEF,J100/2,J100/2:59:59", false);
        Kit.due("the end one second before", less.at(0, 99 * DAY + 7199, 1), 0);
        Kit.due("before it", less.at(0, 99 * DAY + 7198, 1), 1);
        Kit.due("the beginning", less.at(0, 99 * DAY + 7200, 1), 1);
        Kit.sentence(19, "NEVER when there is none");
        Kit.due("next of a SUMMER without end", always.next(0, Kit.LEAST), ZoneFiles.NEVER);
        Kit.due("next, again", always.next(0, 0L), ZoneFiles.NEVER);
        Kit.sentence(20, "NEVER when there is none");
        Kit.due("last of a SUMMER without end", Kit.ruled("ABC0DEF,J100/2,J100/3", false).last(0, 0L), ZoneFiles.NEVER);
        // The end of one year and the beginning of the next.
        ZoneFiles turn = Kit.ruled("ABC0DEF0,J1/0,J365/24", false);
        Kit.due("at the turn of a year", turn.at(0, 0L, 1), 1);
        Kit.due("before it", turn.at(0, -1L, 1), 1);
        Kit.due("last", turn.last(0, Kit.GREATEST), ZoneFiles.NEVER);
    }

    /** The steps of ZONE 0, all that follow one another. */
    private static void stepsAre(ZoneFiles z, long... steps) {
        for (int i = 0; i < steps.length; i++) {
            long before = i == 0 ? ZoneFiles.NEVER : steps[i - 1];
            long behind = i + 1 < steps.length ? steps[i + 1] : ZoneFiles.NEVER;
            Kit.sentence(19, "The first STEP of a ZONE above an INSTANT");
            Kit.due("next before step " + i, z.next(0, steps[i] - 1), steps[i]);
            Kit.due("next at step " + i, z.next(0, steps[i]), behind);
            Kit.sentence(20, "The last STEP of a ZONE below an INSTANT");
            Kit.due("last at step " + i, z.last(0, steps[i]), before);
            if (steps[i] < Kit.GREATEST) {
                Kit.due("last behind step " + i, z.last(0, steps[i] + 1), steps[i]);
            }
        }
        Kit.sentence(19, "NEVER when there is none (up to the greatest INSTANT)");
        Kit.due("next of all", z.next(0, Kit.LEAST), steps.length == 0 ? ZoneFiles.NEVER : steps[0]);
        Kit.due("next behind all", z.next(0, Kit.GREATEST), ZoneFiles.NEVER);
        Kit.sentence(20, "NEVER when there is none");
        Kit.due("last before all", z.last(0, Kit.LEAST), ZoneFiles.NEVER);
    }

    private static void steps() {
        stepsAre(Kit.filed(zone("", 10L, 11L, 30L)), 10L, 11L, 30L);
        stepsAre(Kit.filed(zone("ABC0", 10L, 11L, 30L)), 10L, 11L, 30L);
        stepsAre(Kit.filed(zone("")));
        stepsAre(Kit.ruled("ABC9", false));
        Kit.Tape tape = new Kit.Tape();
        // Each next one has another offset alone, another DST alone, another NAME alone; the last time has nothing.
        tape.types = new int[][] {{0, 0, 0}, {1, 0, 0}, {1, 1, 0}, {1, 1, 4}, {1, 1, 8}};
        tape.chars = "UTC\0UTD\0UTDD\0";
        tape.times = new long[] {1L, 2L, 3L, 4L, 5L};
        tape.timeTypes = new int[] {1, 2, 3, 4, 4};
        stepsAre(Kit.filed(tape), 1L, 2L, 3L, 4L, 5L);
        // NAMES of one size that differ in the first, the second, the last byte.
        tape.types = new int[][] {{0, 0, 0}, {0, 0, 4}, {0, 0, 8}, {0, 0, 12}};
        tape.chars = "UTC\0XTC\0XXC\0XXX\0";
        tape.times = new long[] {1L, 2L, 3L, 4L};
        tape.timeTypes = new int[] {1, 2, 3, 3};
        stepsAre(Kit.filed(tape), 1L, 2L, 3L, 4L);
    }

    private static void whatIsNoStep() {
        Kit.Tape tape = new Kit.Tape();
        // Three types that tell the same, by other bytes of CHAR.
        tape.types = new int[][] {{60, 0, 0}, {60, 0, 4}, {60, 0, 9}};
        tape.chars = "ABC\0XABC\0ABC\0";
        tape.types[1][2] = 5;
        tape.times = new long[] {1L, 2L, 3L, 4L};
        tape.timeTypes = new int[] {0, 1, 2, 0};
        stepsAre(Kit.filed(tape), 4L);
        tape.rule = "ABC-0:01";
        stepsAre(Kit.filed(tape));
        tape.times = new long[200];
        tape.timeTypes = new int[200];
        for (int i = 0; i < 200; i++) {
            tape.times[i] = i;
            tape.timeTypes[i] = i % 3;
        }
        stepsAre(Kit.filed(tape));
    }

    private static void stepsAtTheEnds() {
        ZoneFiles z = Kit.filed(zone("", Kit.LEAST, Kit.LEAST + 1, Kit.GREATEST));
        stepsAre(z, Kit.LEAST + 1, Kit.GREATEST);
        Kit.sentence(20, "one second before (an INSTANT, too)");
        Kit.due("the least INSTANT is no STEP", z.last(0, Kit.LEAST + 1), ZoneFiles.NEVER);
        ZoneFiles one = Kit.filed(zone("", Kit.LEAST));
        Kit.due("nor is it when it has nothing", one.last(0, Kit.GREATEST), ZoneFiles.NEVER);
        stepsAre(Kit.filed(zone("", Kit.GREATEST)), Kit.GREATEST);
        stepsAre(Kit.filed(zone("", Kit.GREATEST - 1, Kit.GREATEST)), Kit.GREATEST - 1, Kit.GREATEST);
        stepsAre(Kit.filed(zone("ABC0", Kit.LEAST + 1)), Kit.LEAST + 1);
    }

    private static void stepsOfRules() {
        // The greatest INSTANT is the 13th of May, 13:56:15, of a long year; the least one the 20th of August, 10:03:45.
        Kit.sentence(19, "up to the greatest INSTANT");
        ZoneFiles at = Kit.ruled("ABC0DEF0,J133/13:56:15,J1/0", false);
        Kit.due("a STEP at the greatest INSTANT", at.next(0, Kit.GREATEST - 1), Kit.GREATEST);
        Kit.due("none above it", at.next(0, Kit.GREATEST), ZoneFiles.NEVER);
        ZoneFiles behind = Kit.ruled("ABC0DEF0,J133/13:56:16,J1/0", false);
        Kit.due("a beginning one second behind", behind.next(0, Kit.GREATEST - 1), ZoneFiles.NEVER);
        Kit.due("it is no SUMMER yet", behind.at(0, Kit.GREATEST, 1), 0);
        Kit.sentence(20, "one second before (an INSTANT, too)");
        ZoneFiles least = Kit.ruled("ABC0DEF0,J232/10:03:45,J1/0", false);
        Kit.due("SUMMER at the least INSTANT", least.at(0, Kit.LEAST, 1), 1);
        Kit.due("but no STEP", least.last(0, Kit.LEAST + 1), ZoneFiles.NEVER);
        ZoneFiles above = Kit.ruled("ABC0DEF0,J232/10:03:46,J1/0", false);
        Kit.due("no SUMMER at the least INSTANT", above.at(0, Kit.LEAST, 1), 0);
        Kit.due("a STEP one second above", above.last(0, Kit.LEAST + 2), Kit.LEAST + 1);
        Kit.due("it is next", above.next(0, Kit.LEAST), Kit.LEAST + 1);
        ZoneFiles below = Kit.ruled("ABC0DEF0,J232/10:03:44,J1/0", false);
        Kit.due("SUMMER began before the least INSTANT", below.at(0, Kit.LEAST, 1), 1);
        Kit.due("there is none below", below.last(0, Kit.LEAST + 1000), ZoneFiles.NEVER);
    }

    /** The 29th of February alone is STANDARD: eight years are between two of them at the turn of most hundreds. */
    private static void rareSteps() {
        ZoneFiles z = Kit.ruled("ABC0DEF0,J60/0,59/0", false);
        int[] years = {1892, 1896, 1904, 1908, 1996, 2000, 2004, 2096, 2104};
        for (int i = 0; i + 1 < years.length; i++) {
            if (years[i + 1] - years[i] > 8) {
                continue;
            }
            long day = z.seconds(years[i], 2, 29, 0);
            long next = z.seconds(years[i + 1], 2, 29, 0);
            Kit.sentence(19, "The first STEP of a ZONE above an INSTANT");
            Kit.due("that day", z.next(0, day - 1), day);
            Kit.due("the day behind it", z.next(0, day), day + DAY);
            Kit.due("the next one", z.next(0, day + DAY), next);
            Kit.sentence(20, "The last STEP of a ZONE below an INSTANT");
            Kit.due("the one before", z.last(0, next), day + DAY);
            Kit.due("its day", z.last(0, day + DAY), day);
        }
    }

    private static void stepsAtTheLastTime() {
        // The RULE's SUMMER of 1970 begins at 99 * DAY and ends at 199 * DAY.
        String rule = "ABC0DEF-1,J100/0,J200/1";
        long begin = 99 * DAY;
        long end = 199 * DAY;
        Kit.Tape tape = zone(rule, 10L, begin);
        tape.timeTypes = new int[] {2, 1};
        ZoneFiles z = Kit.filed(tape);
        Kit.sentence(19, "The first STEP of a ZONE above an INSTANT");
        Kit.due("a beginning at the last time", z.next(0, 10L), begin);
        Kit.due("then the RULE's end", z.next(0, begin), end);
        Kit.sentence(20, "The last STEP of a ZONE below an INSTANT");
        Kit.due("back to the last time", z.last(0, end), begin);
        Kit.due("back to the first time", z.last(0, begin), 10L);
        tape.timeTypes = new int[] {1, 1};
        ZoneFiles same = Kit.filed(tape);
        Kit.sentence(19, "that is not the same as one second before");
        Kit.due("SUMMER was there before it", same.next(0, 10L), end);
        Kit.sentence(20, "that is not the same as one second before");
        Kit.due("SUMMER was there before it", same.last(0, end), 10L);
        tape.times = new long[] {10L, begin + 1};
        tape.timeTypes = new int[] {2, 1};
        ZoneFiles late = Kit.filed(tape);
        Kit.sentence(13, "from the last one on what the RULE tells");
        Kit.due("no SUMMER before the last time", late.at(0, begin, 1), 0);
        Kit.sentence(19, "The first STEP of a ZONE above an INSTANT");
        Kit.due("the last time, and not the beginning", late.next(0, 10L), begin + 1);
        Kit.sentence(20, "The last STEP of a ZONE below an INSTANT");
        Kit.due("the last time, and not the beginning", late.last(0, end), begin + 1);
        Kit.due("nor below the last time", late.last(0, begin + 1), 10L);
        // One time, and what it tells was there before: no STEP of the RULE counts up to it.
        Kit.Tape one = zone(rule, end);
        one.types[0] = one.types[2];
        ZoneFiles only = Kit.filed(one);
        Kit.sentence(19, "The first STEP of a ZONE above an INSTANT");
        Kit.due("the beginning of the next year", only.next(0, 0L), begin + 365 * DAY);
        Kit.sentence(20, "The last STEP of a ZONE below an INSTANT");
        Kit.due("there is none", only.last(0, begin + 365 * DAY), ZoneFiles.NEVER);
        Kit.due("there is none", only.last(0, end), ZoneFiles.NEVER);
    }

    private static void found(ZoneFiles z, long s, long... instants) {
        Kit.sentence(17, "All INSTANTS at which a clock of a ZONE shows LOCAL SECONDS s");
        Kit.due("find(0, " + s + ")", z.find(0, s), instants.length);
        Kit.sentence(18, "The i-th INSTANT that was FOUND, the least one first");
        for (int i = 0; i < instants.length; i++) {
            Kit.due("found(" + i + ") of " + s, z.found(i), instants[i]);
        }
        Kit.dueThrow("found(" + instants.length + ")", Kit.INDEX, () -> z.found(instants.length));
        Kit.dueThrow("found(-1)", Kit.INDEX, () -> z.found(-1));
    }

    private static void finds() {
        long begin = 99 * DAY;
        long end = 199 * DAY;
        ZoneFiles z = Kit.ruled("ABC0DEF-1,J100/0,J200/1", false);
        found(z, begin - 1, begin - 1);
        found(z, begin);
        found(z, begin + 3599);
        found(z, begin + 3600, begin);
        found(z, end - 1, end - 3601);
        found(z, end, end - 3600, end);
        found(z, end + 3599, end - 1, end + 3599);
        found(z, end + 3600, end + 3600);
        ZoneFiles none = Kit.filed(zone("", 10L, 20L));
        // DEF is one hour ahead from 10 on; from 20 on there is nothing.
        found(none, -91L, 9L);
        found(none, -90L);
        found(none, 3609L);
        found(none, 3610L, 10L);
        found(none, 3619L, 19L);
        found(none, 3620L);
        found(none, 20L);
        Kit.Tape same = zone("", 10L, 20L);
        same.types = new int[][] {{5, 0, 0}, {5, 1, 4}, {5, 0, 8}};
        found(Kit.filed(same), 10L, 5L);
        found(Kit.filed(same), 15L, 10L);
    }

    private static void findsAtTheEnds() {
        ZoneFiles east = Kit.ruled("ABC-1", false);
        found(east, Kit.LEAST);
        found(east, Kit.LEAST + 3599);
        found(east, Kit.LEAST + 3600, Kit.LEAST);
        found(east, Kit.GREATEST, Kit.GREATEST - 3600);
        ZoneFiles west = Kit.ruled("ABC1", false);
        found(west, Kit.LEAST, Kit.LEAST + 3600);
        found(west, Kit.GREATEST - 3600, Kit.GREATEST);
        found(west, Kit.GREATEST - 3599);
        found(west, Kit.GREATEST);
    }

    /** A clock that goes back one second each second shows the same by 40 types, and by the RULE's SUMMER behind them. */
    private static void mostFound() {
        for (boolean turned : new boolean[] {false, true}) {
            Kit.Tape tape = new Kit.Tape();
            tape.types = new int[40][];
            tape.times = new long[39];
            tape.timeTypes = new int[39];
            tape.types[0] = new int[] {1000, 0, 0};
            for (int i = 1; i < 40; i++) {
                int type = turned ? 40 - i : i;
                tape.types[type] = new int[] {1000 - i, 0, 0};
                tape.times[i - 1] = i;
                tape.timeTypes[i - 1] = type;
            }
            tape.chars = "ABC\0";
            tape.rule = "ABC-0:16:01DEF-0:16,0/0:16:41,J200";
            long[] all = new long[41];
            for (int i = 0; i < 41; i++) {
                all[i] = i;
            }
            found(Kit.filed(tape), 1000L, all);
        }
    }

    private static void found() {
        ZoneFiles z = Kit.ruled("ABC0DEF-1,J100/0,J200/1", false);
        Kit.sentence(18, "The i-th INSTANT that was FOUND");
        Kit.dueThrow("found(0) before a find", Kit.INDEX, () -> z.found(0));
        Kit.due("find", z.find(0, 199 * DAY), 2);
        for (int bad : new int[] {Integer.MIN_VALUE, -1, 2, 41, 42, 1000, Integer.MAX_VALUE}) {
            Kit.dueThrow("found(" + bad + ")", Kit.INDEX, () -> z.found(bad));
        }
        Kit.due("rule", Kit.rule(z, 0, "ABC9", false), 0);
        Kit.due("what was FOUND stays, though its ZONE is another", z.found(1), 199 * DAY);
        Kit.due("find in another ZONE", z.find(3, 7L), 1);
        Kit.due("found(0)", z.found(0), 7L);
        Kit.dueThrow("found(1)", Kit.INDEX, () -> z.found(1));
        Kit.due("rule", Kit.rule(z, 0, "ABC0DEF-1,J100/0,J200/1", false), 0);
        Kit.due("find none", z.find(0, 99 * DAY), 0);
        Kit.dueThrow("found(0)", Kit.INDEX, () -> z.found(0));
    }
}
