import java.util.Arrays;

/** Promise 21 (stretch). */
public final class StretchTest {
    public static void main(String[] args) {
        withoutTimes();
        behindTimes();
        newTypes();
        namesInChars();
        marks();
        tooMany();
        endsOfYears();
        wrong();
        Kit.end();
    }

    private static void withoutTimes() {
        ZoneFiles z = Kit.ruled("EST5EDT,M3.2.0,M11.1.0", false);
        Kit.due("stretch", z.stretch(0, 1970), 2);
        Kit.due("time", z.time(0, 0), z.seconds(1970, 3, 8, 7 * 3600));
        Kit.due("time", z.time(0, 1), z.seconds(1970, 11, 1, 6 * 3600));
        Kit.due("type", z.typeAt(0, 0), 1);
        Kit.due("type", z.typeAt(0, 1), 0);
        Kit.due("types", z.zone(0, 2), 2);
        Kit.due("before the first time type 0", z.at(0, -15000000L, 3), 0);
        Kit.due("the same year again", z.stretch(0, 1970), 2);
        Kit.due("two years more", z.stretch(0, 1972), 6);
        Kit.due("a year that is past", z.stretch(0, 1971), 6);
        Kit.due("behind the last time the RULE", z.at(0, z.time(0, 5), 3), -1);
        Kit.due("next", z.next(0, z.time(0, 5)), z.seconds(1973, 3, 11, 7 * 3600));
        Kit.due("version stays", z.zone(0, 0), 50);
        ZoneFiles all = Kit.ruled("EST5EDT,0/0,J365/25", true);
        Kit.due("of two at an INSTANT the beginning alone", all.stretch(0, 1972), 3);
        for (int i = 0; i < 3; i++) {
            Kit.due("type", all.typeAt(0, i), 1);
            Kit.due("time", all.time(0, i), all.seconds(1970 + i, 1, 1, 5 * 3600));
        }
    }

    private static Kit.Tape paris() {
        Kit.Tape tape = new Kit.Tape();
        tape.rule = "CET-1CEST,M3.5.0,M10.5.0/3";
        tape.types = new int[][] {{0, 0, 0}, {3600, 0, 4}};
        tape.chars = "LMT\0CET\0";
        tape.times = new long[] {-86400L * 366L};
        tape.timeTypes = new int[] {1};
        return tape;
    }

    private static void behindTimes() {
        ZoneFiles z = Kit.filed(paris());
        // From 1968-12-31 on: 1969, 1970 and 1971.
        Kit.due("stretch", z.stretch(0, 1971), 7);
        Kit.due("first", z.time(0, 1), z.seconds(1969, 3, 30, 3600));
        Kit.due("last", z.time(0, 6), z.seconds(1971, 10, 31, 3600));
        Kit.due("a new type", z.zone(0, 2), 3);
        Kit.due("its offset", z.type(0, 2, 0), 7200);
        Kit.due("its DST", z.type(0, 2, 1), 1);
        Kit.due("its index", z.type(0, 2, 2), 8);
        Kit.due("CHAR", Kit.letters(z, 0, 0).equals("LMT\0CET\0CEST\0"), true);
        Kit.due("type", z.typeAt(0, 1), 2);
        Kit.due("type", z.typeAt(0, 2), 1);
        Kit.due("leaps stay", z.zone(0, 4), 0);
        Kit.Tape at = paris();
        at.times = new long[] {z.time(0, 2)};
        ZoneFiles w = Kit.filed(at);
        Kit.due("an edge at the last time is not above it", w.stretch(0, 1970), 3);
        Kit.due("time", w.time(0, 1), z.time(0, 3));
    }

    private static void newTypes() {
        Kit.Tape tape = paris();
        tape.times = new long[0];
        tape.timeTypes = new int[0];
        tape.types = new int[][] {{5, 0, 0}};
        tape.chars = "LMT\0";
        ZoneFiles north = Kit.filed(tape);
        Kit.due("stretch", north.stretch(0, 1970), 2);
        Kit.due("types", north.zone(0, 2), 3);
        Kit.due("the SUMMER comes first", north.type(0, 1, 1), 1);
        Kit.due("CHAR", Kit.letters(north, 0, 0).equals("LMT\0CEST\0CET\0"), true);
        tape.rule = "CET-1CEST,M10.5.0,M3.5.0/3";
        ZoneFiles south = Kit.filed(tape);
        Kit.due("stretch", south.stretch(0, 1970), 2);
        Kit.due("the STANDARD comes first", south.type(0, 1, 1), 0);
        Kit.due("CHAR", Kit.letters(south, 0, 0).equals("LMT\0CET\0CEST\0"), true);
        tape.rule = "CET-1CEST,0/1,J365/26";
        tape.version = 51;
        ZoneFiles summer = Kit.filed(tape);
        Kit.due("stretch", summer.stretch(0, 1971), 2);
        Kit.due("no type that no time has", summer.zone(0, 2), 2);
        // The first type that tells it, though others do too.
        tape.rule = "CET-1CEST,M3.5.0,M10.5.0/3";
        tape.types = new int[][] {{7200, 0, 4}, {3600, 1, 4}, {7200, 1, 4}, {7200, 1, 9}, {3600, 0, 14}, {3600, 0, 10}, {3600, 0, 14}, {7200, 1, 4}};
        tape.chars = "LMT\0CEST\0CEST\0CET\0";
        ZoneFiles first = Kit.filed(tape);
        Kit.due("stretch", first.stretch(0, 1970), 2);
        Kit.due("the first SUMMER", first.typeAt(0, 0), 2);
        Kit.due("the first STANDARD", first.typeAt(0, 1), 4);
        Kit.due("no new type", first.zone(0, 2), 8);
    }

    private static void namesInChars() {
        Kit.Tape tape = paris();
        tape.chars = "XCEST\0CET\0CEST\0";
        tape.types = new int[][] {{0, 0, 0}, {3600, 0, 6}};
        ZoneFiles z = Kit.filed(tape);
        Kit.due("stretch", z.stretch(0, 1970), 5);
        Kit.due("the first place of the NAME and a 0", z.type(0, 2, 2), 1);
        Kit.due("CHAR stays", z.zone(0, 3), 15);
        tape.chars = "CEST\0 CET\0";
        Kit.due("the NAME at 0", Kit.filed(tape).stretch(0, 1970), 5);
        ZoneFiles first = Kit.filed(tape);
        first.stretch(0, 1970);
        Kit.due("the NAME at 0", first.type(0, 2, 2), 0);
        tape.chars = "DEST\0 CET\0";
        ZoneFiles other = Kit.filed(tape);
        other.stretch(0, 1970);
        Kit.due("another NAME", other.type(0, 2, 2), 10);
        tape.chars = "CESTX\0CET\0CES";
        ZoneFiles w = Kit.filed(tape);
        Kit.due("stretch", w.stretch(0, 1970), 5);
        Kit.due("no 0 behind it: it comes behind", w.type(0, 2, 2), 13);
        Kit.due("CHAR", Kit.letters(w, 0, 0).equals("CESTX\0CET\0CESCEST\0"), true);
    }

    private static void marks() {
        Kit.Tape tape = paris();
        tape.stds = new int[] {1, 1};
        tape.uts = new int[] {1, 1};
        ZoneFiles z = Kit.filed(tape);
        Kit.due("stretch", z.stretch(0, 1970), 5);
        Kit.due("STD", z.zone(0, 5), 3);
        Kit.due("UT", z.zone(0, 6), 3);
        Kit.due("STD of the new one", z.type(0, 2, 4), 0);
        Kit.due("UT of the new one", z.type(0, 2, 5), 0);
        Kit.due("STD of an old one", z.type(0, 1, 4), 1);
        tape.stds = new int[0];
        tape.uts = new int[] {0, 0};
        ZoneFiles w = Kit.filed(tape);
        Kit.due("stretch", w.stretch(0, 1970), 5);
        Kit.due("STD", w.zone(0, 5), 0);
        Kit.due("UT", w.zone(0, 6), 3);
        z.write(0, 51);
        z.again();
        Kit.due("it can be read again", z.read(1), 0);
        Kit.Tape one = paris();
        one.types = new int[][] {{3600, 0, 4}};
        one.timeTypes = new int[] {0};
        one.stds = new int[] {1};
        one.uts = new int[] {1};
        ZoneFiles v = Kit.filed(one);
        Kit.due("stretch", v.stretch(0, 1970), 5);
        Kit.due("STD of one type and another", v.zone(0, 5), 2);
        Kit.due("UT of one type and another", v.zone(0, 6), 2);
    }

    private static void stays(String what, ZoneFiles z, int year) {
        byte[] before = Kit.written(z, 0, 51);
        Kit.due(what, z.stretch(0, year), ZoneFiles.NONE);
        Kit.due(what + ": the zone stays", Arrays.equals(before, Kit.written(z, 0, 51)), true);
    }

    private static Kit.Tape parisWithTime(long time) {
        Kit.Tape tape = paris();
        boolean summer = Kit.ruled(tape.rule, false).at(0, time, 1) == 1;
        tape.times = new long[] {time};
        tape.timeTypes = new int[] {summer ? 2 : 1};
        tape.types = new int[][] {{0, 0, 0}, {3600, 0, 4}, {7200, 1, 8}};
        tape.chars = "LMT\0CET\0CEST\0";
        return tape;
    }

    private static void tooMany() {
        ZoneFiles z = Kit.ruled("EST5EDT,M3.2.0,M11.1.0", false);
        stays("201 times and more", z, 2070);
        Kit.due("200 times", z.stretch(0, 2069), 200);
        stays("202 times", z, 2070);
        Kit.due("none more", z.stretch(0, 2069), 200);
        stays("times since the least INSTANT", Kit.filed(parisWithTime(Kit.LEAST)), 1970);
        Kit.due("none more behind the greatest", Kit.filed(parisWithTime(Kit.GREATEST)).stretch(0, 2400), 1);

        Kit.Tape types = paris();
        types.types = new int[40][];
        types.stds = new int[40];
        types.uts = new int[40];
        for (int i = 0; i < 40; i++) {
            types.types[i] = new int[] {3600, 0, 4};
        }
        stays("41 types", Kit.filed(types), 1970);
        types.types = Arrays.copyOf(types.types, 39);
        types.stds = new int[39];
        types.uts = new int[39];
        Kit.due("40 types", Kit.filed(types).stretch(0, 1970), 5);

        Kit.Tape chars = paris();
        chars.chars = "LMT\0CET\0" + "x".repeat(188);
        stays("201 bytes of CHAR", Kit.filed(chars), 1970);
        chars.chars = "LMT\0CET\0" + "x".repeat(187);
        Kit.due("200 bytes of CHAR", Kit.filed(chars).stretch(0, 1970), 5);
        chars.chars = "LMT\0CET\0" + "x".repeat(187) + "CEST\0";
        Kit.due("200 bytes of CHAR, with the NAME", Kit.filed(chars).stretch(0, 1970), 5);
        chars.chars = "LMT\0CET\0" + "x".repeat(188) + "CEST";
        stays("the NAME without its 0", Kit.filed(chars), 1970);
    }

    private static void endsOfYears() {
        // The beginning of 1970 by UT counts; so does the last second of a year, but not the next one.
        ZoneFiles z = Kit.ruled("AAA0BBB0,0/0,J365/23:59:59", false);
        Kit.due("stretch", z.stretch(0, 1970), 2);
        Kit.due("first", z.time(0, 0), 0L);
        Kit.due("last", z.time(0, 1), 86400L * 365L - 1L);
        ZoneFiles w = Kit.ruled("AAA0BBB0,J365/24,J100/0", false);
        Kit.due("stretch", w.stretch(0, 1970), 2);
        Kit.due("first is the beginning of 1969", w.time(0, 0), 0L);
        Kit.due("then the end of 1970", w.time(0, 1), 99L * 86400L);
        Kit.due("stretch", w.stretch(0, 1971), 4);
        Kit.due("the beginning of 1970 comes in 1971", w.time(0, 2), 86400L * 365L);
        ZoneFiles v = Kit.ruled("AAA1BBB1,J365/22:59:59,J100/0", false);
        Kit.due("one second before 1970", v.stretch(0, 1970), 2);
        Kit.due("is not there", v.time(0, 0), 99L * 86400L + 3600L);
    }

    private static void wrong() {
        ZoneFiles z = Kit.ruled("EST5EDT,M3.2.0,M11.1.0", false);
        for (int bad : new int[] {-1, 4, Integer.MIN_VALUE, Integer.MAX_VALUE}) {
            Kit.dueThrow("zone", Kit.INDEX, () -> z.stretch(bad, 1969));
        }
        for (int bad : new int[] {1969, 2401, Integer.MIN_VALUE, Integer.MAX_VALUE}) {
            Kit.dueThrow("year", Kit.ARGUMENT, () -> z.stretch(0, bad));
            Kit.dueThrow("year comes first", Kit.ARGUMENT, () -> z.stretch(1, bad));
        }
        Kit.dueThrow("no SUMMER", Kit.STATE, () -> z.stretch(1, 1970));
        Kit.Tape tape = new Kit.Tape();
        ZoneFiles none = Kit.filed(tape);
        Kit.dueThrow("no RULE", Kit.STATE, () -> none.stretch(0, 2400));
        stays("2400 is a year", z, 2400);
    }
}
