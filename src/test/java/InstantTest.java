/** Promises 13 (at), 14 (name), 17 (find), 18 (found), 19 (next) and 20 (last). */
public final class InstantTest {
    private static final long CYCLE = 146097L * 86400L;

    public static void main(String[] args) {
        withTimes();
        withoutRule();
        withoutAll();
        rules();
        ties();
        rareSteps();
        ends();
        sameThings();
        timesAtTheEnds();
        edgesAtTheEnds();
        edgeAtLastTime();
        oldRules();
        finds();
        wrong();
        Kit.end();
    }

    private static Kit.Tape newYork() {
        Kit.Tape tape = new Kit.Tape();
        tape.times = new long[] {1000L, 2000L, 1710054000L};
        tape.timeTypes = new int[] {1, 2, 1};
        tape.types = new int[][] {{-17762, 0, 0}, {-14400, 1, 4}, {-18000, 0, 8}};
        tape.chars = "LMT\0EDT\0EST\0";
        tape.rule = "EST5EDT,M3.2.0,M11.1.0";
        return tape;
    }

    private static void has(ZoneFiles z, long t, int offset, int dst, String name, int type) {
        Kit.due("offset at " + t, z.at(0, t, 0), offset);
        Kit.due("DST at " + t, z.at(0, t, 1), dst);
        Kit.due("size of the name at " + t, z.at(0, t, 2), name.length());
        Kit.due("type at " + t, z.at(0, t, 3), type);
        Kit.due("name at " + t, Kit.nameAt(z, 0, t).equals(name), true);
        Kit.dueThrow("name behind its last", Kit.STATE, () -> z.name(0, t, name.length()));
        Kit.dueThrow("name before its first", Kit.STATE, () -> z.name(0, t, -1));
    }

    private static void hasNothing(ZoneFiles z, long t) {
        for (int what = 0; what < 4; what++) {
            Kit.due("nothing at " + t, z.at(0, t, what), ZoneFiles.NONE);
        }
        Kit.dueThrow("name of nothing", Kit.STATE, () -> z.name(0, t, 0));
    }

    private static void steps(ZoneFiles z, long... steps) {
        for (int i = 0; i < steps.length; i++) {
            long before = i == 0 ? ZoneFiles.NEVER : steps[i - 1];
            Kit.due("last of a step", z.last(0, steps[i]), before);
            Kit.due("next before a step", z.next(0, steps[i] - 1), steps[i]);
            Kit.due("last behind a step", z.last(0, steps[i] + 1), steps[i]);
            if (i > 0) {
                Kit.due("next of a step", z.next(0, steps[i - 1]), steps[i]);
            }
        }
    }

    private static void withTimes() {
        ZoneFiles z = Kit.filed(newYork());
        has(z, Kit.LEAST, -17762, 0, "LMT", 0);
        has(z, 999L, -17762, 0, "LMT", 0);
        has(z, 1000L, -14400, 1, "EDT", 1);
        has(z, 1999L, -14400, 1, "EDT", 1);
        has(z, 2000L, -18000, 0, "EST", 2);
        has(z, 1710053999L, -18000, 0, "EST", 2);
        has(z, 1710054000L, -14400, 1, "EDT", -1);
        has(z, 1730613599L, -14400, 1, "EDT", -1);
        has(z, 1730613600L, -18000, 0, "EST", -1);
        steps(z, 1000L, 2000L, 1710054000L, 1730613600L, 1741503600L, 1762063200L);
    }

    private static void withoutRule() {
        Kit.Tape tape = newYork();
        tape.rule = "";
        ZoneFiles z = Kit.filed(tape);
        has(z, 999L, -17762, 0, "LMT", 0);
        has(z, 2000L, -18000, 0, "EST", 2);
        hasNothing(z, 1710054000L);
        hasNothing(z, Kit.GREATEST);
        steps(z, 1000L, 2000L, 1710054000L);
        Kit.due("no step behind nothing", z.next(0, 1710054000L), ZoneFiles.NEVER);
        Kit.due("last of all", z.last(0, Kit.GREATEST), 1710054000L);
        Kit.due("find in nothing", z.find(0, 1710054000L), 0);
        tape.times = new long[] {77L};
        tape.timeTypes = new int[] {0};
        ZoneFiles one = Kit.filed(tape);
        has(one, 76L, -17762, 0, "LMT", 0);
        hasNothing(one, 77L);
        steps(one, 77L);
    }

    private static void withoutAll() {
        Kit.Tape tape = newYork();
        tape.times = new long[0];
        tape.timeTypes = new int[0];
        ZoneFiles ruled = Kit.filed(tape);
        has(ruled, 1720000000L, -14400, 1, "EDT", -1);
        has(ruled, -1720000000L, -14400, 1, "EDT", -1);
        tape.rule = "";
        ZoneFiles z = Kit.filed(tape);
        has(z, Kit.GREATEST, -17762, 0, "LMT", 0);
        has(z, Kit.LEAST, -17762, 0, "LMT", 0);
        Kit.due("next", z.next(0, Kit.LEAST), ZoneFiles.NEVER);
        Kit.due("last", z.last(0, Kit.GREATEST), ZoneFiles.NEVER);
        Kit.due("find", z.find(0, 0L), 1);
        Kit.due("found", z.found(0), 17762L);
    }

    private static void rules() {
        ZoneFiles south = Kit.ruled("AEST-10AEDT,M10.1.0,M4.1.0/3", false);
        has(south, 1704067200L, 39600, 1, "AEDT", -1);
        has(south, 1719792000L, 36000, 0, "AEST", -1);
        // 2024-04-07 03:00 AEDT, 2024-10-06 02:00 AEST
        Kit.due("end", south.next(0, 1704067200L), 1712419200L);
        Kit.due("beginning", south.next(0, 1712419200L), 1728144000L);
        ZoneFiles days = Kit.ruled("AAA0BBB,J60/0,60/1", false);
        // J60 is always the 1st of March, 60 the 2nd of March of short years, the 1st of long ones.
        Kit.due("J60 of a short year", days.next(0, days.seconds(2023, 2, 20, 0)), days.seconds(2023, 3, 1, 0));
        Kit.due("60 of a short year", days.next(0, days.seconds(2023, 3, 1, 0)), days.seconds(2023, 3, 2, 0));
        // Of a long year both come to the same INSTANT: the beginning counts up to the next end.
        Kit.due("J60 of a long year", days.next(0, days.seconds(2024, 2, 20, 0)), days.seconds(2024, 3, 1, 0));
        Kit.due("the end of another year", days.next(0, days.seconds(2024, 3, 1, 0)), days.seconds(2025, 3, 2, 0));
        ZoneFiles last = Kit.ruled("AAA0BBB0,365/0,J32/0", false);
        Kit.due("365 of a short year", last.next(0, last.seconds(2023, 6, 1, 0)), last.seconds(2024, 1, 1, 0));
        Kit.due("365 of a long year", last.next(0, last.seconds(2024, 6, 1, 0)), last.seconds(2024, 12, 31, 0));
        ZoneFiles fifth = Kit.ruled("AAA0BBB0,M2.5.4/0,M12.5.6/0", false);
        Kit.due("fifth of a long February", fifth.next(0, fifth.seconds(2024, 1, 5, 0)), fifth.seconds(2024, 2, 29, 0));
        Kit.due("fifth of a short February", fifth.next(0, fifth.seconds(2023, 1, 5, 0)), fifth.seconds(2023, 2, 23, 0));
        ZoneFiles wide = Kit.ruled("AAA-1BBB,J1/-167:59:59,J365/167", true);
        // The beginning of 2024 is before the end of 2023, and each lies in the other's year.
        has(wide, wide.seconds(2024, 6, 1, 0), 3600, 0, "AAA", -1);
        has(wide, wide.seconds(2024, 1, 1, 0), 7200, 1, "BBB", -1);
        Kit.due("the beginning of 2024", wide.next(0, wide.seconds(2023, 12, 1, 0)), wide.seconds(2023, 12, 24, 23 * 3600 + 1));
        Kit.due("the end of 2023", wide.next(0, wide.seconds(2023, 12, 31, 0)), wide.seconds(2024, 1, 6, 21 * 3600));
        Kit.due("the beginning of 2025", wide.next(0, wide.seconds(2024, 1, 7, 0)), wide.seconds(2024, 12, 24, 23 * 3600 + 1));
        Kit.due("back to the end of 2023", wide.last(0, wide.seconds(2024, 12, 24, 0)), wide.seconds(2024, 1, 6, 21 * 3600));
        ZoneFiles hours = Kit.ruled("AAA3BBB,M3.5.0/-2,M10.5.0/-1", true);
        Kit.due("a time below 0", hours.next(0, 1704067200L), 1711846800L);
        ZoneFiles more = Kit.ruled("AAA0BBB,M3.4.4/50,M10.4.4/50", true);
        Kit.due("a time beyond 24", more.next(0, 1704067200L), more.seconds(2024, 3, 30, 7200));
        ZoneFiles westward = Kit.ruled("IST-1GMT0,M10.5.0,M3.5.0/1", false);
        has(westward, 1704067200L, 0, 1, "GMT", -1);
        has(westward, 1719792000L, 3600, 0, "IST", -1);
    }

    private static void ties() {
        ZoneFiles all = Kit.ruled("EST5EDT,0/0,J365/25", true);
        Kit.due("next", all.next(0, 0L), ZoneFiles.NEVER);
        Kit.due("next again", all.next(0, 5L), ZoneFiles.NEVER);
        Kit.due("last", all.last(0, 0L), ZoneFiles.NEVER);
        has(all, 1735707600L, -14400, 1, "EDT", -1);
        has(all, 1735707599L, -14400, 1, "EDT", -1);
        Kit.due("another rule at that place", Kit.rule(all, 0, "EST5EDT,M3.2.0,M11.1.0", false), 0);
        Kit.due("next", all.next(0, 1700000000L), 1710054000L);
        ZoneFiles same = Kit.ruled("AAA0BBB0,100,100", false);
        Kit.due("last", same.last(0, 0L), ZoneFiles.NEVER);
        Kit.due("next", same.next(0, 0L), ZoneFiles.NEVER);
        has(same, 0L, 0, 1, "BBB", -1);
    }

    private static void rareSteps() {
        // The 4th and the last Sunday of February differ only when it has five.
        ZoneFiles z = Kit.ruled("AAA0BBB0,M2.4.0,M2.5.0", false);
        steps5(z, 2004, 2005, 2032, 2033);
        Kit.due("over a hundred's year", z.next(0, z.seconds(2089, 6, 1, 0)), z.seconds(2128, 2, 29, 7200));
        Kit.due("and back", z.last(0, z.seconds(2128, 2, 1, 0)), z.seconds(2089, 2, 27, 7200));
        Kit.due("far away", z.next(0, z.seconds(20000002089L, 6, 1, 0) ), z.seconds(20000002128L, 2, 29, 7200));
    }

    private static void steps5(ZoneFiles z, int... years) {
        for (int i = 0; i + 1 < years.length; i += 2) {
            long end = z.seconds(years[i], 2, 29, 7200);
            long begin = z.next(0, end);
            Kit.due("end in " + years[i], z.next(0, end - 86400L * 365L * 3L), end);
            Kit.due("begins in " + years[i + 1], z.clock(begin, 0), years[i + 1]);
            Kit.due("last", z.last(0, begin), end);
        }
    }

    private static void ends() {
        ZoneFiles z = Kit.ruled("EST5EDT,M3.2.0,M11.1.0", false);
        long cycles = Kit.GREATEST / CYCLE;
        for (long t = 0L; t < 40000000L; t += 3600 * 31) {
            long high = Kit.GREATEST - t;
            long low = Kit.LEAST + t;
            Kit.due("at the upper end", z.at(0, high, 0), z.at(0, high - cycles * CYCLE, 0));
            Kit.due("at the lower end", z.at(0, low, 0), z.at(0, low + cycles * CYCLE, 0));
            long next = z.next(0, high - cycles * CYCLE) + cycles * CYCLE;
            Kit.due("next at the upper end", z.next(0, high), next > Kit.GREATEST ? ZoneFiles.NEVER : next);
            long last = z.last(0, low + cycles * CYCLE) - cycles * CYCLE;
            Kit.due("last at the lower end", z.last(0, low), last <= Kit.LEAST ? ZoneFiles.NEVER : last);
        }
        Kit.due("next of the greatest", z.next(0, Kit.GREATEST), ZoneFiles.NEVER);
        Kit.due("last of the least", z.last(0, Kit.LEAST), ZoneFiles.NEVER);
        Kit.due("last of the greatest", z.last(0, Kit.GREATEST), z.last(0, Kit.GREATEST - cycles * CYCLE) + cycles * CYCLE);
    }

    private static void sameThings() {
        Kit.Tape tape = new Kit.Tape();
        // Types 0, 1 and 2 tell the same, by three indexes; 3 has another DST alone, 4 another NAME alone.
        tape.types = new int[][] {{60, 0, 0}, {60, 0, 5}, {60, 0, 11}, {60, 1, 0}, {60, 1, 16}};
        tape.chars = "ABCD\0ABCD\0XABCD\0ABCE\0";
        tape.times = new long[] {10L, 20L, 30L, 31L, 32L, 33L};
        tape.timeTypes = new int[] {1, 2, 3, 3, 4, 0};
        tape.rule = "ABCD-0:01";
        ZoneFiles z = Kit.filed(tape);
        steps(z, 30L, 32L, 33L);
        Kit.due("no step behind", z.next(0, 33L), ZoneFiles.NEVER);
        Kit.due("the type is another, though", z.at(0, 20L, 3), 2);
        tape.chars = "ABCD\0XBCD\0XABCX\0ABCE\0";
        ZoneFiles other = Kit.filed(tape);
        steps(other, 10L, 20L, 30L, 32L, 33L);
        Kit.due("the RULE tells it", z.at(0, 33L, 3), -1);
    }

    private static void timesAtTheEnds() {
        Kit.Tape tape = newYork();
        tape.times = new long[] {Kit.LEAST, Kit.LEAST + 1, Kit.GREATEST};
        tape.rule = "";
        ZoneFiles z = Kit.filed(tape);
        Kit.due("the least INSTANT is no step", z.last(0, Kit.LEAST + 1), ZoneFiles.NEVER);
        Kit.due("the one behind is", z.next(0, Kit.LEAST), Kit.LEAST + 1);
        Kit.due("last", z.last(0, Kit.LEAST + 2), Kit.LEAST + 1);
        Kit.due("the greatest is a step", z.next(0, 0L), Kit.GREATEST);
        Kit.due("but not below itself", z.last(0, Kit.GREATEST), Kit.LEAST + 1);
        has(z, Kit.LEAST, -14400, 1, "EDT", 1);
        hasNothing(z, Kit.GREATEST);
    }

    /** A RULE that begins at an INSTANT, of any year, by its month and day. */
    private static String ruleThatBeginsAt(ZoneFiles z, long t) {
        int[] starts = {0, 31, 59, 90, 120, 151, 181, 212, 243, 273, 304, 334};
        long day = starts[(int) z.clock(t, 1) - 1] + z.clock(t, 2);
        String time = z.clock(t, 3) + ":" + z.clock(t, 4) + ":" + z.clock(t, 5);
        return "AAA0BBB0,J" + day + "/" + time + ",J" + (day > 200 ? day - 100 : day + 100);
    }

    private static void edgesAtTheEnds() {
        ZoneFiles z = new ZoneFiles();
        Kit.due("rule", Kit.rule(z, 0, ruleThatBeginsAt(z, Kit.GREATEST), false), 0);
        Kit.due("SUMMER begins", z.at(0, Kit.GREATEST, 1), 1);
        Kit.due("before", z.at(0, Kit.GREATEST - 1, 1), 0);
        Kit.due("the greatest INSTANT is a step", z.next(0, Kit.GREATEST - 1), Kit.GREATEST);
        Kit.due("rule", Kit.rule(z, 0, ruleThatBeginsAt(z, Kit.LEAST), false), 0);
        Kit.due("SUMMER begins", z.at(0, Kit.LEAST, 1), 1);
        Kit.due("the least INSTANT is no step", z.last(0, Kit.LEAST + 1), ZoneFiles.NEVER);
        Kit.due("the least INSTANT is no step", z.last(0, Kit.LEAST + 86400), ZoneFiles.NEVER);
        Kit.due("rule", Kit.rule(z, 0, ruleThatBeginsAt(z, Kit.LEAST + 1), false), 0);
        Kit.due("the one behind is", z.last(0, Kit.LEAST + 2), Kit.LEAST + 1);
        Kit.due("the one behind is", z.next(0, Kit.LEAST), Kit.LEAST + 1);
        Kit.due("rule", Kit.rule(z, 0, ruleThatBeginsAt(z, Kit.GREATEST - 86400L * 365L), false), 0);
        Kit.due("an end behind the greatest INSTANT is none", z.next(0, Kit.GREATEST - 86400L), ZoneFiles.NEVER);
    }

    /** The RULE begins a SUMMER at the last time, but there was the same already. */
    private static void edgeAtLastTime() {
        Kit.Tape tape = newYork();
        tape.timeTypes = new int[] {2, 1, 1};
        ZoneFiles z = Kit.filed(tape);
        steps(z, 1000L, 2000L, 1730613600L);
        Kit.due("last", z.last(0, 1710054001L), 2000L);
    }

    /** Rules without a SUMMER in the place of rules with one. */
    private static void oldRules() {
        ZoneFiles z = new ZoneFiles();
        for (int i = 0; i < 3; i++) {
            Kit.due("rule", Kit.rule(z, 0, "EST5EDT,M3.2.0,M11.1.0", false), 0);
        }
        for (int i = 0; i < 3; i++) {
            Kit.due("rule", Kit.rule(z, 0, "EST5", false), 0);
            Kit.due("next", z.next(0, 0L), ZoneFiles.NEVER);
            Kit.due("last", z.last(0, 0L), ZoneFiles.NEVER);
            has(z, 1720000000L, -18000, 0, "EST", -1);
            found(z, 1720000000L, 1720018000L);
        }
    }

    private static void found(ZoneFiles z, long s, long... instants) {
        Kit.due("find " + s, z.find(0, s), instants.length);
        for (int i = 0; i < instants.length; i++) {
            Kit.due("found " + i, z.found(i), instants[i]);
        }
        Kit.dueThrow("found behind the last", Kit.INDEX, () -> z.found(instants.length));
        Kit.dueThrow("found before the first", Kit.INDEX, () -> z.found(-1));
    }

    private static void finds() {
        ZoneFiles z = Kit.filed(newYork());
        found(z, 1710035999L, 1710053999L);
        found(z, 1710036000L);
        found(z, 1710039599L);
        found(z, 1710039600L, 1710054000L);
        found(z, 1730595600L, 1730610000L, 1730613600L);
        found(z, 1730599199L, 1730613599L, 1730617199L);
        found(z, 1730599200L, 1730617200L);
        found(z, Kit.GREATEST);
        found(z, Kit.LEAST, Kit.LEAST + 17762L);
        ZoneFiles east = Kit.ruled("EAS-5", false);
        found(east, Kit.LEAST);
        found(east, Kit.LEAST + 18000L, Kit.LEAST);
        found(east, Kit.GREATEST, Kit.GREATEST - 18000L);
        // Forty types, one second each: a clock that goes back by one each second shows the same again and again.
        Kit.Tape tape = new Kit.Tape();
        tape.types = new int[40][];
        tape.times = new long[40];
        tape.timeTypes = new int[40];
        for (int i = 0; i < 40; i++) {
            tape.types[i] = new int[] {1000 - i, 0, 0};
            tape.times[i] = i;
            tape.timeTypes[i] = i;
        }
        ZoneFiles back = Kit.filed(tape);
        Kit.due("find", back.find(0, 1000L), 39);
        for (int i = 0; i < 39; i++) {
            Kit.due("found", back.found(i), i);
        }
    }

    private static void wrong() {
        ZoneFiles z = Kit.ruled("EAS-5", false);
        Kit.due("find", z.find(0, 0L), 1);
        for (int bad : new int[] {-1, 4, Integer.MIN_VALUE, Integer.MAX_VALUE}) {
            Kit.dueThrow("at", Kit.INDEX, () -> z.at(bad, 0L, 0));
            Kit.dueThrow("at what", Kit.INDEX, () -> z.at(0, 0L, bad));
            Kit.dueThrow("at what and when", Kit.INDEX, () -> z.at(0, Long.MAX_VALUE, bad));
            Kit.dueThrow("name", Kit.INDEX, () -> z.name(bad, Long.MAX_VALUE, 9));
            Kit.dueThrow("find", Kit.INDEX, () -> z.find(bad, Long.MAX_VALUE));
            Kit.dueThrow("next", Kit.INDEX, () -> z.next(bad, Long.MAX_VALUE));
            Kit.dueThrow("last", Kit.INDEX, () -> z.last(bad, Long.MAX_VALUE));
        }
        for (long bad : new long[] {Kit.LEAST - 1, Kit.GREATEST + 1, Long.MIN_VALUE, Long.MAX_VALUE}) {
            Kit.dueThrow("at", Kit.ARGUMENT, () -> z.at(0, bad, 0));
            Kit.dueThrow("name", Kit.ARGUMENT, () -> z.name(0, bad, 9));
            Kit.dueThrow("find", Kit.ARGUMENT, () -> z.find(0, bad));
            Kit.dueThrow("next", Kit.ARGUMENT, () -> z.next(0, bad));
            Kit.dueThrow("last", Kit.ARGUMENT, () -> z.last(0, bad));
        }
        Kit.dueThrow("name", Kit.STATE, () -> z.name(0, 0L, 3));
        Kit.dueThrow("name", Kit.STATE, () -> z.name(0, 0L, Integer.MIN_VALUE));
        Kit.dueThrow("name", Kit.STATE, () -> z.name(0, 0L, Integer.MAX_VALUE));
        Kit.due("what was found stays", z.found(0), -18000L);
    }
}
