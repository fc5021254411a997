import java.util.Arrays;
import java.util.function.Supplier;

/** Promise 21 (stretch) at its edges. */
public final class StretchEdgesTest {
    private static final long DAY = 86400L;
    private static final String RULE = "ABC0DEF0,J100/0,J200/0";

    public static void main(String[] args) {
        years();
        whatIsThrown();
        endOfTheYear();
        beginningOf1970();
        aboveTheLastTime();
        sameInstant();
        allEdges();
        firstTypes();
        newTypes();
        marks();
        namesInChars();
        mostTimes();
        mostTypes();
        mostChars();
        nothingMore();
        whatStays();
        Kit.end();
    }

    /** A ZONE with the STANDARD and the SUMMER of RULE, and another type. */
    private static Kit.Tape zone(long... times) {
        Kit.Tape tape = new Kit.Tape();
        tape.types = new int[][] {{0, 0, 0}, {0, 1, 4}, {77, 0, 8}};
        tape.chars = "ABC\0DEF\0LMT\0";
        tape.rule = RULE;
        tape.times = times;
        tape.timeTypes = new int[times.length];
        if (times.length > 0 && Kit.ruled(RULE, false).at(0, times[times.length - 1], 1) == 1) {
            tape.timeTypes[times.length - 1] = 1;
        }
        return tape;
    }

    private static void stretched(ZoneFiles z, int year, long... times) {
        Kit.due("stretch(0, " + year + ")", z.stretch(0, year), times.length);
        Kit.due("how many times", z.zone(0, 1), times.length);
        for (int i = 0; i < times.length; i++) {
            Kit.due("time " + i, z.time(0, i), times[i]);
        }
        Kit.dueThrow("none behind", Kit.INDEX, () -> z.time(0, times.length));
    }

    /** A part of what is written of a ZONE; all of it would take more than an object's 512 calls. */
    private static String part(ZoneFiles z, int from) {
        StringBuilder part = new StringBuilder();
        int size = z.write(0, 51);
        part.append(z.zone(0, 0)).append(' ').append(size);
        for (int i = from; i < from + 100 && i < size; i++) {
            part.append(' ').append(z.out(i));
        }
        return part.toString();
    }

    /** NONE is the answer, and the ZONE stays, which is made again for each part. */
    private static void stays(Supplier<ZoneFiles> zone, int year) {
        int size = zone.get().write(0, 51);
        for (int from = 0; from < size; from += 100) {
            ZoneFiles z = zone.get();
            Kit.due("stretch(0, " + year + ")", z.stretch(0, year), ZoneFiles.NONE);
            Kit.due("the ZONE stays", part(z, from), part(zone.get(), from));
        }
    }

    private static void stays(Kit.Tape tape, int year) {
        stays(() -> Kit.filed(tape), year);
    }

    private static ZoneFiles stretchedTo(ZoneFiles z, int year) {
        z.stretch(0, year);
        return z;
    }

    private static void years() {
        Kit.sentence(21, "the year is not 1970 .. 2400");
        Kit.due("1970", Kit.ruled(RULE, false).stretch(0, 1970), 2);
        ZoneFiles late = Kit.ruled(RULE, false);
        Kit.due("2400, with too many times", late.stretch(0, 2400), ZoneFiles.NONE);
        ZoneFiles z = Kit.filed(zone(Kit.ruled(RULE, false).seconds(2399, 12, 31, 0)));
        Kit.due("2400", z.stretch(0, 2400), 3);
        Kit.due("its last time", z.time(0, 2), z.seconds(2400, 7, 19, 0));
        Kit.due("2399, with none more", Kit.filed(zone(z.seconds(2399, 12, 31, 0))).stretch(0, 2399), 1);
        for (int bad : new int[] {Integer.MIN_VALUE, 0, 1969, 2401, Integer.MAX_VALUE}) {
            Kit.dueThrow("year " + bad, Kit.ARGUMENT, () -> z.stretch(0, bad));
        }
    }

    private static void whatIsThrown() {
        ZoneFiles z = Kit.ruled(RULE, false);
        Kit.sentence(21, "IndexOutOfBoundsException: there is no such ZONE");
        for (int bad : new int[] {Integer.MIN_VALUE, -1, 4, Integer.MAX_VALUE}) {
            Kit.dueThrow("zone " + bad, Kit.INDEX, () -> z.stretch(bad, 1970));
            Kit.dueThrow("zone " + bad + " and a wrong year", Kit.INDEX, () -> z.stretch(bad, 1969));
        }
        Kit.sentence(21, "the one named first when several would do");
        Kit.dueThrow("a wrong year, and no SUMMER", Kit.ARGUMENT, () -> z.stretch(1, 1969));
        Kit.dueThrow("a wrong year, and no SUMMER", Kit.ARGUMENT, () -> z.stretch(1, 2401));
        Kit.sentence(21, "IllegalStateException: its RULE has no SUMMER");
        Kit.dueThrow("UTC0", Kit.STATE, () -> z.stretch(1, 1970));
        Kit.dueThrow("UTC0", Kit.STATE, () -> z.stretch(1, 2400));
        ZoneFiles none = Kit.filed(new Kit.Tape());
        Kit.dueThrow("no RULE at all", Kit.STATE, () -> none.stretch(0, 1970));
        Kit.Tape old = new Kit.Tape();
        old.version = 0;
        ZoneFiles w = Kit.filed(old);
        Kit.dueThrow("VERSION 0", Kit.STATE, () -> w.stretch(0, 1970));
    }

    private static void endOfTheYear() {
        Kit.sentence(21, "up to the end, by UT, of a year");
        long end = 365 * DAY;
        stretched(Kit.ruled("ABC0DEF0,J365/23:59:59,J200/0", false), 1970, 199 * DAY, end - 1);
        stretched(Kit.ruled("ABC0DEF0,J364/24,J200/0", false), 1970, 199 * DAY, end - DAY);
        ZoneFiles next = Kit.ruled("ABC0DEF0,J365/24,J200/0", false);
        stretched(next, 1970, 0L, 199 * DAY);
        stretched(next, 1971, 0L, 199 * DAY, end, end + 199 * DAY);
        // By UT: a clock of the ZONE shows another year.
        stretched(Kit.ruled("ABC1DEF1,J365/22:59:59,J200/0", false), 1970, 199 * DAY + 3600, end - 1);
        stretched(Kit.ruled("ABC1DEF1,J365/23,J200/0", false), 1970, 0L, 199 * DAY + 3600);
        stretched(Kit.ruled("ABC-1DEF-1,J1/0:59:59,J200/0", false), 1970, 199 * DAY - 3600, end - 1);
        stretched(Kit.ruled("ABC-1DEF-1,J1/1,J200/0", false), 1970, 0L, 199 * DAY - 3600);
        // A long year has a day more: 1972 ends with day 1095.
        Kit.Tape tape = zone(729 * DAY);
        tape.rule = "ABC0DEF0,365/23:59:59,J200/0";
        stretched(Kit.filed(tape), 1972, 729 * DAY, 731 * DAY - 1, 930 * DAY, 1096 * DAY - 1);
    }

    private static void beginningOf1970() {
        Kit.sentence(21, "from the beginning of 1970 on if it has none");
        stretched(Kit.ruled("ABC0DEF0,J1/0,J200/0", false), 1970, 0L, 199 * DAY);
        stretched(Kit.ruled("ABC0DEF0,J1/0:00:01,J200/0", false), 1970, 1L, 199 * DAY);
        stretched(Kit.ruled("ABC0DEF0,J1/-0:00:01,J200/0", true), 1970, 199 * DAY, 365 * DAY - 1);
        stretched(Kit.ruled("ABC0DEF0,J365/24,J200/0", false), 1970, 0L, 199 * DAY);
        stretched(Kit.ruled("ABC0DEF0,J365/23:59:59,J200/0", false), 1970, 199 * DAY, 365 * DAY - 1);
        Kit.sentence(21, "above its last time (all, if it has none)");
        stretched(Kit.filed(zone()), 1970, 99 * DAY, 199 * DAY);
        // With a time, edges before 1970 count, too.
        stretched(Kit.filed(zone(-365 * DAY)), 1970, -365 * DAY, -365 * DAY + 99 * DAY, -365 * DAY + 199 * DAY, 99 * DAY, 199 * DAY);
        stretched(Kit.filed(zone(-1L)), 1970, -1L, 99 * DAY, 199 * DAY);
    }

    private static void aboveTheLastTime() {
        Kit.sentence(21, "above its last time");
        stretched(Kit.filed(zone(99 * DAY - 1)), 1970, 99 * DAY - 1, 99 * DAY, 199 * DAY);
        stretched(Kit.filed(zone(99 * DAY)), 1970, 99 * DAY, 199 * DAY);
        stretched(Kit.filed(zone(99 * DAY + 1)), 1970, 99 * DAY + 1, 199 * DAY);
        stretched(Kit.filed(zone(199 * DAY - 1)), 1970, 199 * DAY - 1, 199 * DAY);
        stretched(Kit.filed(zone(199 * DAY)), 1970, 199 * DAY);
        stretched(Kit.filed(zone(5L, 199 * DAY)), 1970, 5L, 199 * DAY);
        stretched(Kit.filed(zone(5L, 199 * DAY)), 1971, 5L, 199 * DAY, 464 * DAY, 564 * DAY);
        Kit.sentence(21, "Answers how many times it has then");
        stretched(Kit.filed(zone(Kit.GREATEST)), 2400, Kit.GREATEST);
        stretched(Kit.filed(zone(366 * DAY)), 1970, 366 * DAY);
        Kit.sentence(21, "when there would be more than 200 times");
        stays(zone(Kit.LEAST), 1970);
    }

    private static void sameInstant() {
        Kit.sentence(21, "of two at the same INSTANT the beginning alone");
        ZoneFiles z = Kit.ruled("ABC0DEF0,J100/0,J100/0", false);
        stretched(z, 1972, 99 * DAY, 464 * DAY, 730 * DAY + 100 * DAY);
        for (int i = 0; i < 3; i++) {
            Kit.due("it is SUMMER", z.type(0, z.typeAt(0, i), 1), 1);
        }
        ZoneFiles turn = Kit.ruled("ABC0DEF0,J1/0,J365/24", false);
        stretched(turn, 1971, 0L, 365 * DAY);
        Kit.due("the beginning", turn.typeAt(0, 0), 1);
        // In short years the beginning comes one day after the end, in long ones with it.
        ZoneFiles some = Kit.ruled("ABC0DEF0,60/0,J60/0", false);
        stretched(some, 1972, 59 * DAY, 60 * DAY, 365 * DAY + 59 * DAY, 365 * DAY + 60 * DAY, 730 * DAY + 60 * DAY);
        int[] types = {0, 1, 0, 1, 1};
        for (int i = 0; i < 5; i++) {
            Kit.due("type of time " + i, some.typeAt(0, i), types[i]);
        }
    }

    /** Two beginnings that follow one another: both are times, though the second one is no STEP. */
    private static void allEdges() {
        Kit.sentence(21, "the beginnings and ends of its RULE's SUMMERS");
        ZoneFiles z = Kit.ruled("ABC0DEF0,J100/0,J100/0:00:01", false);
        stretched(z, 1971, 99 * DAY, 99 * DAY + 1, 464 * DAY, 464 * DAY + 1);
        ZoneFiles beginnings = Kit.ruled("ABC0DEF0,60/0,J60/0", false);
        Kit.due("stretch", beginnings.stretch(0, 1972), 5);
        Kit.due("the second beginning is no STEP", beginnings.next(0, 425 * DAY), 1155 * DAY);
    }

    private static void firstTypes() {
        Kit.sentence(21, "Their types are the first ones with the offset, DST and NAME of the SUMMER or STANDARD");
        Kit.Tape tape = zone();
        // Others have another offset, another DST, another NAME; then come two of each.
        tape.types = new int[][] {{1, 0, 0}, {0, 1, 0}, {0, 0, 4}, {0, 0, 8}, {1, 1, 4}, {0, 1, 9}, {0, 0, 0}, {0, 1, 4}, {0, 0, 14}, {0, 1, 4}};
        tape.chars = "ABC\0DEF\0XABCX\0ABC\0";
        ZoneFiles z = Kit.filed(tape);
        stretched(z, 1970, 99 * DAY, 199 * DAY);
        Kit.due("the first SUMMER", z.typeAt(0, 0), 7);
        Kit.due("the first STANDARD", z.typeAt(0, 1), 6);
        Kit.due("no new type", z.zone(0, 2), 10);
        Kit.due("CHAR stays", z.zone(0, 3), 18);
        tape.types[3] = new int[] {0, 0, 14};
        tape.types[5] = new int[] {0, 1, 4};
        ZoneFiles w = Kit.filed(tape);
        stretched(w, 1970, 99 * DAY, 199 * DAY);
        Kit.due("the NAME by another index is as good", w.typeAt(0, 1), 3);
        Kit.due("the first SUMMER", w.typeAt(0, 0), 5);
    }

    private static void newTypes() {
        Kit.sentence(21, "where there is none it comes behind the others");
        Kit.Tape tape = zone();
        tape.types = new int[][] {{77, 0, 0}};
        tape.chars = "LMT\0";
        ZoneFiles z = Kit.filed(tape);
        stretched(z, 1970, 99 * DAY, 199 * DAY);
        Kit.due("types", z.zone(0, 2), 3);
        int[][] types = {{77, 0, 0, 3, 0, 0}, {0, 1, 4, 3, 0, 0}, {0, 0, 8, 3, 0, 0}};
        for (int i = 0; i < 3; i++) {
            for (int what = 0; what < 6; what++) {
                Kit.due("type(0, " + i + ", " + what + ")", z.type(0, i, what), types[i][what]);
            }
        }
        Kit.due("CHAR", Kit.letters(z, 0, 0), "LMT\0DEF\0ABC\0");
        Kit.due("the SUMMER's", z.typeAt(0, 0), 1);
        Kit.due("the STANDARD's", z.typeAt(0, 1), 2);
        Kit.due("before them type 0", z.at(0, 0L, 3), 0);
        tape.rule = "ABC0DEF0,J200/0,J100/0";
        ZoneFiles south = Kit.filed(tape);
        stretched(south, 1970, 99 * DAY, 199 * DAY);
        Kit.due("the end comes first", Kit.letters(south, 0, 0), "LMT\0ABC\0DEF\0");
        tape.types = new int[][] {{77, 0, 0}, {0, 0, 4}};
        tape.chars = "LMT\0ABC\0";
        ZoneFiles one = Kit.filed(tape);
        stretched(one, 1970, 99 * DAY, 199 * DAY);
        Kit.due("the SUMMER alone is new", one.zone(0, 2), 3);
        Kit.due("it is the last one", one.typeAt(0, 1), 2);
        tape.rule = "ABC0DEF0,J100/0,J100/0";
        ZoneFiles always = Kit.filed(tape);
        stretched(always, 1970, 99 * DAY);
        Kit.due("no time is an end: no STANDARD comes", always.zone(0, 2), 3);
    }

    private static void marks() {
        Kit.sentence(21, "STD and UT, if there are any, 0");
        for (int marks = 0; marks < 4; marks++) {
            Kit.Tape tape = zone();
            tape.types = new int[][] {{77, 0, 0}};
            tape.chars = "LMT\0";
            tape.stds = marks % 2 == 0 ? new int[0] : new int[] {1};
            tape.uts = marks < 2 ? new int[0] : new int[] {marks == 3 ? 1 : 0};
            ZoneFiles z = new ZoneFiles();
            // What was there before had marks everywhere.
            for (int i = 0; i < 2; i++) {
                Kit.Tape old = zone();
                old.stds = new int[] {1, 1, 1};
                old.uts = new int[] {1, 1, 1};
                Kit.due("read", Kit.read(z, 0, old.bytes()), 0);
            }
            Kit.due("read", Kit.read(z, 0, tape.bytes()), 0);
            stretched(z, 1970, 99 * DAY, 199 * DAY);
            Kit.due("how many STD", z.zone(0, 5), marks % 2 == 0 ? 0 : 3);
            Kit.due("how many UT", z.zone(0, 6), marks < 2 ? 0 : 3);
            Kit.due("the old one's STD", z.type(0, 0, 4), marks % 2);
            Kit.due("the old one's UT", z.type(0, 0, 5), marks == 3 ? 1 : 0);
            for (int i = 1; i < 3; i++) {
                Kit.due("a new one's STD", z.type(0, i, 4), 0);
                Kit.due("a new one's UT", z.type(0, i, 5), 0);
            }
            z.write(0, 50);
            z.again();
            Kit.due("it can be read again", z.read(1), 0);
        }
    }

    private static void index(String chars, int index, int type) {
        Kit.Tape tape = zone();
        tape.types = new int[][] {{0, 0, type}};
        tape.chars = chars;
        ZoneFiles z = Kit.filed(tape);
        stretched(z, 1970, 99 * DAY, 199 * DAY);
        Kit.due("the SUMMER's index in " + chars, z.type(0, 1, 2), index);
        Kit.due("bytes of CHAR", z.zone(0, 3), Math.max(chars.length(), index + 4));
        Kit.due("its NAME", Kit.nameAt(z, 0, 99 * DAY), "DEF");
    }

    private static void namesInChars() {
        Kit.sentence(21, "its NAME comes behind CHAR, with a 0");
        index("ABC\0", 4, 0);
        index("ABC\0X", 5, 0);
        index("ABC\0DEF", 7, 0);
        index("ABC\0DEFX\0", 9, 0);
        index("ABC\0DE\0F\0", 9, 0);
        index("ABC\0DE", 6, 0);
        index("ABC\0XEF\0", 8, 0);
        index("ABC\0DXF\0", 8, 0);
        index("ABC\0DEX\0", 8, 0);
        Kit.sentence(21, "unless the same bytes with a 0 behind them stand there already: then the first such index");
        index("ABC\0DEF\0", 4, 0);
        index("DEF\0ABC\0", 0, 4);
        index("ABC\0XDEF\0", 5, 0);
        index("ABC\0DEFDEF\0DEF\0", 7, 0);
        index("ABC\0DEDEF\0", 6, 0);
        index("ABC\0!\0DEF\0\0", 6, 0);
        index("ABC\0DEFX\0DEF\0DEF\0", 9, 0);
    }

    private static void mostTimes() {
        Kit.sentence(21, "NONE, when there would be more than 200 times");
        stays(() -> Kit.ruled(RULE, false), 2070);
        ZoneFiles z = Kit.ruled(RULE, false);
        Kit.due("200 times", z.stretch(0, 2069), 200);
        Kit.due("none more", z.stretch(0, 2069), 200);
        Kit.due("the last one", z.time(0, 199), z.seconds(2069, 7, 19, 0));
        stays(() -> stretchedTo(Kit.ruled(RULE, false), 2069), 2070);
        stays(zone(5L), 2069);
        Kit.due("199 times", Kit.filed(zone(5L)).stretch(0, 2068), 199);
        stays(() -> stretchedTo(Kit.filed(zone(5L)), 2068), 2069);
        // One time a year: the 200th comes in 2169.
        String one = "ABC0DEF0,J100/0,J100/0";
        stays(() -> Kit.ruled(one, false), 2170);
        Kit.due("200 times", Kit.ruled(one, false).stretch(0, 2169), 200);
        stays(() -> stretchedTo(Kit.ruled(one, false), 2169), 2170);
        Kit.Tape full = zone();
        full.times = new long[200];
        full.timeTypes = new int[200];
        for (int i = 0; i < 200; i++) {
            full.times[i] = i;
        }
        stays(full, 1970);
        Kit.Tape less = zone();
        less.times = Arrays.copyOf(full.times, 198);
        less.timeTypes = new int[198];
        Kit.due("198 and 2", Kit.filed(less).stretch(0, 1970), 200);
        stays(less, 1971);
    }

    private static Kit.Tape manyTypes(int count, boolean standard, boolean summer) {
        Kit.Tape tape = zone();
        tape.types = new int[count][];
        tape.stds = new int[count];
        tape.uts = new int[count];
        for (int i = 0; i < count; i++) {
            tape.types[i] = new int[] {7, 0, 8};
        }
        if (standard) {
            tape.types[1] = new int[] {0, 0, 0};
        }
        if (summer) {
            tape.types[count - 1] = new int[] {0, 1, 4};
        }
        return tape;
    }

    private static void mostTypes() {
        Kit.sentence(21, "when there would be more than 200 times, 40 types");
        Kit.due("38 and 2", Kit.filed(manyTypes(38, false, false)).stretch(0, 1970), 2);
        stays(manyTypes(39, false, false), 1970);
        stays(manyTypes(40, false, false), 1970);
        Kit.due("39 and the SUMMER", Kit.filed(manyTypes(39, true, false)).stretch(0, 1970), 2);
        Kit.due("39 and the STANDARD", Kit.filed(manyTypes(39, false, true)).stretch(0, 1970), 2);
        stays(manyTypes(40, true, false), 1970);
        stays(manyTypes(40, false, true), 1970);
        Kit.due("40 with both", Kit.filed(manyTypes(40, true, true)).stretch(0, 1970), 2);
        ZoneFiles z = Kit.filed(manyTypes(38, false, false));
        Kit.due("stretch", z.stretch(0, 1970), 2);
        Kit.due("40 types", z.zone(0, 2), 40);
        Kit.due("40 STD", z.zone(0, 5), 40);
        Kit.due("the last one's DST", z.type(0, 39, 1), 0);
    }

    private static Kit.Tape manyChars(String start, int size) {
        Kit.Tape tape = zone();
        tape.types = new int[][] {{77, 0, 0}};
        tape.chars = start + "x".repeat(size - start.length());
        return tape;
    }

    private static void mostChars() {
        Kit.sentence(21, "or 200 bytes of CHAR (the ZONE stays)");
        Kit.due("192 and 8", Kit.filed(manyChars("LMT\0", 192)).stretch(0, 1970), 2);
        stays(manyChars("LMT\0", 193), 1970);
        stays(manyChars("LMT\0", 196), 1970);
        stays(manyChars("LMT\0", 197), 1970);
        stays(manyChars("LMT\0", 200), 1970);
        Kit.due("196 and the SUMMER's", Kit.filed(manyChars("LMT\0ABC\0", 196)).stretch(0, 1970), 2);
        stays(manyChars("LMT\0ABC\0", 197), 1970);
        Kit.due("196 and the STANDARD's", Kit.filed(manyChars("LMT\0DEF\0", 196)).stretch(0, 1970), 2);
        stays(manyChars("LMT\0DEF\0", 197), 1970);
        Kit.due("200 with both", Kit.filed(manyChars("LMT\0DEF\0ABC\0", 200)).stretch(0, 1970), 2);
        ZoneFiles z = Kit.filed(manyChars("LMT\0", 192));
        Kit.due("stretch", z.stretch(0, 1970), 2);
        Kit.due("200 bytes", z.zone(0, 3), 200);
        Kit.due("the last NAME's index", z.type(0, 2, 2), 196);
        Kit.due("the last byte", z.letter(0, 0, 199), 0);
    }

    /** Where no time comes, nothing else does: a full ZONE may be stretched by none. */
    private static void nothingMore() {
        Kit.sentence(21, "Answers how many times it has then");
        Kit.Tape tape = manyTypes(40, true, false);
        tape.times = new long[] {366 * DAY};
        tape.timeTypes = new int[] {1};
        tape.chars = "ABC\0DEF\0LMT\0" + "x".repeat(188);
        ZoneFiles z = Kit.filed(tape);
        Kit.due("no time more", z.stretch(0, 1970), 1);
        Kit.due("types", z.zone(0, 2), 40);
        stays(tape, 1971);
        ZoneFiles twice = Kit.ruled(RULE, false);
        Kit.due("stretch", twice.stretch(0, 1972), 6);
        Kit.due("the same year", twice.stretch(0, 1972), 6);
        Kit.due("a lesser year", twice.stretch(0, 1970), 6);
        Kit.due("a year more", twice.stretch(0, 1973), 8);
    }

    private static void whatStays() {
        Kit.sentence(21, "The ZONE gets times more");
        Kit.Tape tape = zone(5L);
        tape.version = 51;
        tape.leaps = new long[][] {{5L, 1}};
        tape.rule = "ABC0DEF0,J100/-0,J200/+0";
        ZoneFiles z = Kit.filed(tape);
        stretched(z, 1970, 5L, 99 * DAY, 199 * DAY);
        int[] counts = {51, 3, 3, 12, 1, 0, 0, tape.rule.length()};
        for (int what = 0; what < 8; what++) {
            Kit.due("zone(0, " + what + ")", z.zone(0, what), counts[what]);
        }
        Kit.due("the RULE TEXT", Kit.letters(z, 0, 1), tape.rule);
        Kit.due("what it has is the same", z.at(0, 99 * DAY, 0), 0);
        Kit.due("other ZONES too", z.zone(1, 1), 0);
        Kit.due("the steps are the same", z.next(0, 199 * DAY), 464 * DAY);
    }
}
