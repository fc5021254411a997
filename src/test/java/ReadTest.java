import java.util.Arrays;

/** Promises 3 (read), 6 (place), and 7 to 12: what is asked of a ZONE. */
public final class ReadTest {
    public static void main(String[] args) {
        whatWasRead();
        oldMarks();
        headerFaults();
        blockFaults();
        nameFaults();
        leapFaults();
        markFaults();
        footerFaults();
        lastTimeFaults();
        endsTooEarly();
        faultLeavesZone();
        limits();
        wrongNumbers();
        Kit.end();
    }

    /** A file with something in each row. */
    private static Kit.Tape rich(int version) {
        Kit.Tape tape = new Kit.Tape();
        tape.version = version;
        tape.times = new long[] {-1000L, 0L, 5000L};
        tape.timeTypes = new int[] {1, 2, 0};
        tape.types = new int[][] {{-18000, 0, 0}, {-14400, 1, 4}, {93599, 0, 8}};
        tape.chars = "EST\0EDT\0Odd\0A+1-b\0";
        tape.leaps = new long[][] {{78796800L, 1}, {78796800L + 2419199L, 2}, {94694401L, 1}};
        tape.stds = new int[] {1, 0, 1};
        tape.uts = new int[] {1, 0, 0};
        tape.rule = version == 0 ? "" : "EST5EDT,M3.2.0,M11.1.0";
        tape.firstCounts = new int[] {2, 0, 3, 4, 2, 9};
        return tape;
    }

    private static void whatWasRead() {
        for (int version : new int[] {0, 50, 51}) {
            Kit.Tape tape = rich(version);
            ZoneFiles z = new ZoneFiles();
            Kit.due("read", Kit.read(z, 3, tape.bytes()), 0);
            Kit.due("place", z.place(), -1);
            int[] zone = {version, 3, 3, 18, 3, 3, 3, version == 0 ? 0 : 22};
            for (int what = 0; what < zone.length; what++) {
                Kit.due("zone(3, " + what + ")", z.zone(3, what), zone[what]);
            }
            for (int i = 0; i < 3; i++) {
                Kit.due("time " + i, z.time(3, i), tape.times[i]);
                Kit.due("typeAt " + i, z.typeAt(3, i), tape.timeTypes[i]);
                Kit.due("leap time " + i, z.leap(3, i, 0), tape.leaps[i][0]);
                Kit.due("correction " + i, z.leap(3, i, 1), tape.leaps[i][1]);
                int[] type = {tape.types[i][0], tape.types[i][1], tape.types[i][2], 3, tape.stds[i], tape.uts[i]};
                for (int what = 0; what < type.length; what++) {
                    Kit.due("type " + i + " " + what, z.type(3, i, what), type[what]);
                }
            }
            Kit.due("CHAR", Kit.letters(z, 3, 0).equals(tape.chars), true);
            Kit.due("RULE TEXT", Kit.letters(z, 3, 1).equals(tape.rule), true);
            Kit.due("other zones stay", z.zone(2, 1), 0);
            Kit.due("the tape is used up", z.feed(1, 0L), 1);
        }
        Kit.Tape tape = rich(50);
        tape.stds = new int[0];
        tape.uts = new int[] {0, 0, 0};
        ZoneFiles z = Kit.filed(tape);
        Kit.due("no STD", z.zone(0, 5), 0);
        Kit.due("UT", z.zone(0, 6), 3);
        Kit.due("STD of a type without", z.type(0, 0, 4), 0);
        Kit.due("UT of a type", z.type(0, 0, 5), 0);
        // A smaller zone behind a greater one: nothing of the greater one is left.
        Kit.due("read", Kit.read(z, 0, new Kit.Tape().bytes()), 0);
        Kit.due("times", z.zone(0, 1), 0);
        Kit.due("CHAR", z.zone(0, 3), 4);
        Kit.due("leaps", z.zone(0, 4), 0);
        Kit.due("rule", z.zone(0, 7), 0);
        Kit.dueThrow("time", Kit.INDEX, () -> z.time(0, 0));
        Kit.due("STD", z.type(0, 0, 4), 0);
    }

    /** Each zone and what is read aside of it had marks before: nothing of them is left. */
    private static void oldMarks() {
        Kit.Tape none = new Kit.Tape();
        Kit.Tape wrong = new Kit.Tape();
        wrong.uts = new int[] {1};
        ZoneFiles z = Kit.filed(rich(50));
        for (int i = 0; i < 3; i++) {
            Kit.due("read", Kit.read(z, 0, rich(50).bytes()), 0);
            Kit.due("STD", z.type(0, 0, 4), 1);
            Kit.due("UT", z.type(0, 0, 5), 1);
        }
        Kit.due("UT 1 without STD", Kit.read(z, 0, wrong.bytes()), 13);
        for (int i = 0; i < 2; i++) {
            Kit.due("read", Kit.read(z, 0, none.bytes()), 0);
            Kit.due("no STD", z.type(0, 0, 4), 0);
            Kit.due("no UT", z.type(0, 0, 5), 0);
        }
    }

    private static void fault(String what, byte[] tape, int fault, int place) {
        ZoneFiles z = new ZoneFiles();
        Kit.due(what + ": read", Kit.read(z, 1, tape), fault);
        Kit.due(what + ": place", z.place(), place);
    }

    private static void headerFaults() {
        Kit.Tape tape = rich(50);
        byte[] good = tape.bytes();
        int second = tape.place(0) - 44;
        for (int start : new int[] {0, second}) {
            for (int i = 0; i < 4; i++) {
                byte[] bad = Kit.with(good, start + i, 0);
                fault("magic " + i, bad, 2, start + i);
                fault("magic, tape ends there", Kit.cut(bad, start + i + 1), 2, start + i);
                fault("magic, tape ends before", Kit.cut(bad, start + i), 1, start + i);
            }
            byte[] bad = Kit.with(good, start + 4, 49);
            fault("version", bad, 3, start + 4);
            fault("version, tape ends there", Kit.cut(bad, start + 5), 3, start + 4);
            fault("version, tape ends before", Kit.cut(bad, start + 4), 1, start + 4);
            fault("magic comes before version", Kit.with(bad, start + 3, 1), 2, start + 3);
            fault("version comes before the end", Kit.cut(bad, start + 20), 3, start + 4);
            int[] wrongCounts = {1, 1, 41, 201, 41, 201};
            for (int i = 0; i < 6; i++) {
                int place = start + 20 + 4 * i;
                fault("count " + i, Kit.with(good, place, 0, 0, 0, wrongCounts[i]), 4, i == 4 && good[start + 23] != 0 ? start + 20 : place);
                fault("great count " + i, Kit.with(good, place, 128, 0, 0, 0), 4, i == 4 && good[start + 23] != 0 ? start + 20 : place);
                fault("count, but the header is cut", Kit.cut(Kit.with(good, place, 0, 0, 0, wrongCounts[i]), start + 43), 1, start + 43);
            }
            fault("no CHAR", Kit.with(good, start + 40, 0, 0, 0, 0), 4, start + 40);
        }
        fault("second version is another good one", Kit.with(good, second + 4, 51), 3, second + 4);
        fault("second version 0", Kit.with(good, second + 4, 0), 3, second + 4);
        Kit.Tape plain = new Kit.Tape();
        byte[] bytes = plain.bytes();
        fault("no TYPE", Kit.with(bytes, 36, 0, 0, 0, 0), 4, 36);
        fault("UT as a TYPE that is too great", Kit.with(Kit.with(bytes, 36, 0, 0, 0, 41), 20, 0, 0, 0, 41), 4, 36);
        fault("STD as TYPE, UT not", Kit.with(Kit.with(bytes, 20, 0, 0, 0, 2), 24, 0, 0, 0, 1), 4, 20);
        fault("empty tape", new byte[0], 1, 0);
        fault("two great counts", Kit.with(bytes, 28, 0, 0, 1, 0, 0, 0, 1, 0), 4, 28);
    }

    private static void blockFaults() {
        Kit.Tape tape = rich(51);
        byte[] good = tape.bytes();
        int times = tape.place(0);
        fault("first time below", Kit.with(good, times, 0xF0, 0, 0, 0, 0, 0, 0, 0), 5, times);
        fault("last time above", Kit.with(good, times + 16, 0x10, 0, 0, 0, 0, 0, 0, 0), 5, times + 16);
        fault("the same time", Kit.with(good, times + 16, 0, 0, 0, 0, 0, 0, 0, 0), 5, times + 16);
        fault("a lesser time", Kit.with(good, times + 8, 0xFF, 0xFF, 0xFF, 0xFF, 0xFF, 0xFF, 0, 0), 5, times + 8);
        int types = tape.place(1);
        fault("type", Kit.with(good, types + 1, 3), 6, types + 1);
        fault("type 255", Kit.with(good, types, 255), 6, types);
        int records = tape.place(2);
        fault("offset above", Kit.with(good, records + 12, 0, 1, 0x6D, 0xA0), 7, records + 12);
        fault("offset below", Kit.with(good, records, 0xFF, 0xFE, 0xA0, 0x70), 7, records);
        fault("DST", Kit.with(good, records + 10, 2), 8, records + 10);
        fault("DST 255", Kit.with(good, records + 4, 255), 8, records + 4);
        fault("index", Kit.with(good, records + 17, 18), 9, records + 17);
        fault("byte after byte: DST 0 before offset 1", Kit.with(Kit.with(good, records + 4, 2), records + 6, 0x7F), 8, records + 4);
        fault("byte after byte: time before type", Kit.with(Kit.with(good, times + 16, 0, 0, 0, 0, 0, 0, 0, 0), types, 9), 5, times + 16);
        fault("byte after byte: type before offset", Kit.with(Kit.with(good, records, 0x7F), types + 2, 9), 6, types + 2);
        Kit.Tape edge = rich(51);
        edge.times = new long[] {Kit.LEAST, 0L, Kit.GREATEST};
        edge.types = new int[][] {{-89999, 0, 0}, {-14400, 1, 4}, {93599, 0, 8}};
        edge.rule = "";
        ZoneFiles z = Kit.filed(edge);
        Kit.due("least time", z.time(0, 0), Kit.LEAST);
        Kit.due("greatest time", z.time(0, 2), Kit.GREATEST);
        Kit.due("least offset", z.type(0, 0, 0), -89999);
        Kit.Tape old = rich(0);
        old.times = new long[] {Integer.MIN_VALUE, -1L, Integer.MAX_VALUE};
        ZoneFiles w = Kit.filed(old);
        Kit.due("least time of four bytes", w.time(0, 0), Integer.MIN_VALUE);
        Kit.due("greatest time of four bytes", w.time(0, 2), Integer.MAX_VALUE);
        int oldTimes = old.place(0);
        fault("time of four bytes", Kit.with(old.bytes(), oldTimes + 8, 0x80, 0, 0, 0), 5, oldTimes + 8);
    }

    private static void nameFault(String what, String chars, int index, boolean good) {
        Kit.Tape tape = new Kit.Tape();
        tape.types = new int[][] {{0, 0, 0}, {1, 0, index}};
        tape.chars = "UTC\0" + chars;
        byte[] bytes = tape.bytes();
        if (good) {
            Kit.due(what, Kit.read(new ZoneFiles(), 0, bytes), 0);
        } else {
            fault(what, bytes, 10, tape.place(2) + 11);
        }
    }

    private static void nameFaults() {
        nameFault("three", "abc\0", 4, true);
        nameFault("ten", "ABCDEFGHIJ\0", 4, true);
        nameFault("digits and signs", "+12-34\0", 4, true);
        nameFault("within another", "XABC\0", 5, true);
        nameFault("edges of letters", "azAZ09\0", 4, true);
        nameFault("two", "ab\0", 4, false);
        nameFault("none", "\0", 4, false);
        nameFault("at a 0", "abc\0", 3, false);
        nameFault("eleven", "ABCDEFGHIJK\0", 4, false);
        nameFault("no 0", "abc", 4, false);
        nameFault("a bad byte", "ab_c\0", 4, false);
        for (char c : "@[`{/:*,. <>".toCharArray()) {
            nameFault("a bad byte " + c, "ab" + c + "\0", 4, false);
        }
        nameFault("a bad first byte", "_abc\0", 4, false);
        nameFault("a bad last byte", "abc_\0", 4, false);
        nameFault("a byte above 127", "ab\u00e9\0", 4, false);
        nameFault("bytes that no record has may be anything", "abc\0\u00ff!", 4, true);
        Kit.Tape tape = rich(50);
        tape.types[0][2] = 17;
        tape.types[1][2] = 16;
        tape.leaps[0][1] = 5;
        fault("the first record, before leap faults", tape.bytes(), 10, tape.place(2) + 5);
    }

    private static void leapFaults() {
        for (int version : new int[] {0, 50}) {
            Kit.Tape tape = rich(version);
            byte[] good = tape.bytes();
            int w = version == 0 ? 4 : 8;
            int place = tape.place(4);
            fault("first time below 0", Kit.with(good, place, 0x80), 11, place);
            fault("first correction 2", Kit.with(good, place + w + 3, 2), 12, place + w);
            fault("first correction 0", Kit.with(good, place + w + 3, 0), 12, place + w);
            fault("later time below 0", Kit.with(good, place + w + 4, 0x80), 11, place + w + 4);
            fault("correction the same", Kit.with(good, place + 2 * w + 7, 1), 12, place + 2 * w + 4);
            fault("correction 2 more", Kit.with(good, place + 2 * w + 7, 3), 12, place + 2 * w + 4);
            Kit.Tape near = rich(version);
            near.leaps[1][0]--;
            fault("too near", near.bytes(), 11, place + w + 4);
            near.leaps[0][1] = 7;
            fault("the first one's correction before the second one's time", near.bytes(), 12, place + w);
            near = rich(version);
            near.leaps = new long[][] {{0L, -1}, {2419199L, 0}, {9000000L, -1}, {19000000L, -2}};
            ZoneFiles z = Kit.filed(near);
            Kit.due("time 0", z.leap(0, 0, 0), 0);
            Kit.due("corrections below 0", z.leap(0, 3, 1), -2);
            near.leaps[0][1] = Integer.MIN_VALUE;
            fault("least correction", near.bytes(), 12, place + w);
        }
        Kit.Tape wide = rich(50);
        wide.leaps = new long[][] {{Long.MAX_VALUE - 2419199L, 1}, {Long.MAX_VALUE, 2}};
        Kit.due("a leap record's time need not be an INSTANT", Kit.filed(wide).leap(0, 1, 0), Long.MAX_VALUE);
        wide.leaps = new long[][] {{5L, 1}, {Long.MIN_VALUE, 2}};
        fault("the least time behind another", wide.bytes(), 11, wide.place(4) + 12);
    }

    private static void markFaults() {
        Kit.Tape tape = rich(50);
        byte[] good = tape.bytes();
        int std = tape.place(5);
        int ut = tape.place(6);
        fault("STD 2", Kit.with(good, std + 1, 2), 13, std + 1);
        fault("STD 255", Kit.with(good, std, 255), 13, std);
        fault("UT 2", Kit.with(good, ut, 2), 13, ut);
        fault("UT 1 where STD is 0", Kit.with(good, ut + 1, 1), 13, ut + 1);
        Kit.Tape none = rich(50);
        none.stds = new int[0];
        none.uts = new int[] {0, 0, 1};
        fault("UT 1 without STD", none.bytes(), 13, none.place(6) + 2);
    }

    private static void footerFaults() {
        Kit.Tape tape = rich(50);
        byte[] good = tape.bytes();
        int footer = tape.place(7);
        fault("no FOOTER", Kit.cut(good, footer), 1, footer);
        fault("FOOTER without end", Kit.cut(good, footer + 5), 1, footer + 5);
        fault("one 10 alone", Kit.cut(good, footer + 1), 1, footer + 1);
        fault("first byte", Kit.with(good, footer, 'E'), 14, footer);
        fault("the tape ends, before its first byte", Kit.cut(Kit.with(good, footer, 'E'), footer + 9), 1, footer + 9);
        fault("RULE TEXT", Kit.with(good, footer + 4, '!'), 15, footer + 4);
        fault("a 10 within ends it", Kit.with(good, footer + 9, 10), 15, footer + 9);
        fault("a 10 too early", Kit.with(good, footer + 3, 10), 15, footer + 3);
        tape.behind = "xy";
        fault("bytes behind", tape.bytes(), 16, good.length);
        tape.rule = "EST5EDT,M3.2.0,M11.1.7";
        fault("RULE TEXT before bytes behind", tape.bytes(), 15, footer + 22);
        tape.rule = "EST6";
        fault("bytes behind before the last time", tape.bytes(), 16, footer + 6);
        Kit.Tape old = rich(0);
        old.behind = "\n\n";
        fault("no FOOTER in version 0", old.bytes(), 16, old.place(7));
        Kit.Tape narrow = new Kit.Tape();
        narrow.rule = "EST5EDT,M3.2.0/-1,M11.1.0/25";
        fault("version 50 has no sign", narrow.bytes(), 15, narrow.place(7) + 16);
        narrow.version = 51;
        Kit.due("version 51 has", Kit.filed(narrow).zone(0, 7), 28);
    }

    private static void lastTimeFault(String rule, long time, int offset, int dst, String name, boolean good) {
        Kit.Tape tape = new Kit.Tape();
        tape.times = new long[] {-5000000L, time};
        tape.timeTypes = new int[] {0, 1};
        tape.types = new int[][] {{0, 0, 0}, {offset, dst, 4}};
        tape.chars = "UTC\0" + name + "\0";
        tape.rule = rule;
        if (good) {
            Kit.due("last time fits " + rule, Kit.read(new ZoneFiles(), 0, tape.bytes()), 0);
        } else {
            fault("last time does not fit " + rule, tape.bytes(), 17, tape.place(7) + 1);
        }
    }

    private static void lastTimeFaults() {
        String rule = "EST5EDT,M3.2.0,M11.1.0";
        lastTimeFault(rule, 1710054000L, -14400, 1, "EDT", true);
        lastTimeFault(rule, 1710053999L, -14400, 1, "EDT", false);
        lastTimeFault(rule, 1710053999L, -18000, 0, "EST", true);
        lastTimeFault(rule, 1710054000L, -14401, 1, "EDT", false);
        lastTimeFault(rule, 1710054000L, -14400, 0, "EDT", false);
        lastTimeFault(rule, 1710054000L, -14400, 1, "EDS", false);
        lastTimeFault(rule, 1710054000L, -14400, 1, "EDTX", false);
        lastTimeFault("<+03>-3", 0L, 10800, 0, "+03", true);
        lastTimeFault("<+03>-3", 0L, 10800, 1, "+03", false);
        lastTimeFault("", 0L, 10800, 1, "ANY", true);
        Kit.Tape one = new Kit.Tape();
        one.times = new long[] {5L};
        one.timeTypes = new int[] {0};
        one.rule = "XTC0";
        fault("the only time does not fit", one.bytes(), 17, one.place(7) + 1);
        one.rule = "UTC0";
        Kit.due("the only time fits", Kit.read(new ZoneFiles(), 0, one.bytes()), 0);
        Kit.Tape none = new Kit.Tape();
        none.rule = "XYZ9";
        Kit.due("without times all fits", Kit.read(new ZoneFiles(), 0, none.bytes()), 0);
    }

    private static void endsTooEarly() {
        for (int version : new int[] {0, 51}) {
            byte[] good = rich(version).bytes();
            for (int size = 0; size < good.length; size++) {
                fault("cut at " + size, Kit.cut(good, size), 1, size);
            }
        }
        // A row is looked at when it is there, whatever is behind it; none of a row that is cut.
        Kit.Tape tape = rich(51);
        byte[] bad = Kit.with(tape.bytes(), tape.place(0), 0x7F);
        fault("row of times there", Kit.cut(bad, tape.place(1)), 5, tape.place(0));
        fault("row of times cut", Kit.cut(bad, tape.place(1) - 1), 1, tape.place(1) - 1);
        bad = Kit.with(tape.bytes(), tape.place(2) + 4, 3);
        fault("row of types there", Kit.cut(bad, tape.place(3)), 8, tape.place(2) + 4);
        fault("row of types cut", Kit.cut(bad, tape.place(3) - 1), 1, tape.place(3) - 1);
        bad = Kit.with(tape.bytes(), tape.place(2) + 5, 17);
        fault("CHAR there", Kit.cut(bad, tape.place(4)), 10, tape.place(2) + 5);
        fault("CHAR cut", Kit.cut(bad, tape.place(4) - 1), 1, tape.place(4) - 1);
        bad = Kit.with(tape.bytes(), tape.place(4) + 11, 3);
        fault("leaps there", Kit.cut(bad, tape.place(5)), 12, tape.place(4) + 8);
        fault("leaps cut", Kit.cut(bad, tape.place(5) - 1), 1, tape.place(5) - 1);
        bad = Kit.with(tape.bytes(), tape.place(5), 3);
        fault("STD there", Kit.cut(bad, tape.place(6)), 13, tape.place(5));
        fault("STD cut", Kit.cut(bad, tape.place(6) - 1), 1, tape.place(6) - 1);
        bad = Kit.with(tape.bytes(), tape.place(6), 3);
        fault("UT there", Kit.cut(bad, tape.place(7)), 13, tape.place(6));
        fault("UT cut", Kit.cut(bad, tape.place(7) - 1), 1, tape.place(7) - 1);
    }

    private static void faultLeavesZone() {
        ZoneFiles z = Kit.filed(rich(50));
        byte[] before = Kit.written(z, 0, 50);
        byte[] good = rich(51).bytes();
        for (int size = 0; size < good.length; size += 7) {
            Kit.due("cut", Kit.read(z, 0, Kit.cut(good, size)), 1);
            Kit.due("place", z.place(), size);
        }
        Kit.due("the zone stays", Arrays.equals(before, Kit.written(z, 0, 50)), true);
        Kit.due("read", Kit.read(z, 1, good), 0);
        Kit.due("a good file leaves the place", z.place(), (good.length - 1) / 7 * 7);
        Kit.feed(z, new byte[] {84});
        Kit.dueThrow("read(4)", Kit.INDEX, () -> z.read(4));
        Kit.dueThrow("read(-1)", Kit.INDEX, () -> z.read(-1));
        Kit.due("the tape stays when read throws", z.feed(1, 90L), 2);
    }

    private static void limits() {
        Kit.Tape tape = new Kit.Tape();
        tape.version = 51;
        tape.times = new long[200];
        tape.timeTypes = new int[200];
        for (int i = 0; i < 200; i++) {
            tape.times[i] = i * 5000000000L - 7L;
            tape.timeTypes[i] = i % 40;
        }
        tape.types = new int[40][];
        tape.stds = new int[40];
        tape.uts = new int[40];
        for (int i = 0; i < 40; i++) {
            tape.types[i] = new int[] {i, i & 1, 5 * i};
            tape.stds[i] = 1;
            tape.uts[i] = i & 1;
        }
        tape.chars = "abcd\0".repeat(40);
        tape.leaps = new long[40][];
        for (int i = 0; i < 40; i++) {
            tape.leaps[i] = new long[] {i * 2419199L, i + 1};
        }
        tape.firstCounts = new int[] {40, 40, 40, 200, 40, 200};
        ZoneFiles z = Kit.filed(tape);
        int[] zone = {51, 200, 40, 200, 40, 40, 40, 0};
        for (int what = 0; what < zone.length; what++) {
            Kit.due("zone " + what, z.zone(0, what), zone[what]);
        }
        Kit.due("last time", z.time(0, 199), tape.times[199]);
        Kit.due("last type", z.typeAt(0, 199), 39);
        Kit.due("last record", z.type(0, 39, 2), 195);
        Kit.due("last leap", z.leap(0, 39, 1), 40);
        Kit.due("last letter", z.letter(0, 0, 199), 0);
        byte[] file = Kit.written(z, 0, 50);
        Kit.due("again", z.again(), file.length);
        Kit.due("read again", z.read(1), 0);
        Kit.due("what was read again", Arrays.equals(file, Kit.written(z, 1, 50)), true);
    }

    private static void wrongNumbers() {
        ZoneFiles z = Kit.filed(rich(50));
        for (int bad : new int[] {-1, 4, Integer.MIN_VALUE, Integer.MAX_VALUE}) {
            Kit.dueThrow("zone", Kit.INDEX, () -> z.zone(bad, 0));
            Kit.dueThrow("time of zone", Kit.INDEX, () -> z.time(bad, 0));
            Kit.dueThrow("typeAt of zone", Kit.INDEX, () -> z.typeAt(bad, 0));
            Kit.dueThrow("type of zone", Kit.INDEX, () -> z.type(bad, 0, 0));
            Kit.dueThrow("letter of zone", Kit.INDEX, () -> z.letter(bad, 0, 0));
            Kit.dueThrow("leap of zone", Kit.INDEX, () -> z.leap(bad, 0, 0));
        }
        for (int bad : new int[] {-1, 3, Integer.MIN_VALUE, Integer.MAX_VALUE}) {
            Kit.dueThrow("time", Kit.INDEX, () -> z.time(0, bad));
            Kit.dueThrow("typeAt", Kit.INDEX, () -> z.typeAt(0, bad));
            Kit.dueThrow("type", Kit.INDEX, () -> z.type(0, bad, 0));
            Kit.dueThrow("leap", Kit.INDEX, () -> z.leap(0, bad, 0));
            Kit.dueThrow("letter which", Kit.INDEX, () -> z.letter(0, bad, 0));
            Kit.dueThrow("leap what", Kit.INDEX, () -> z.leap(0, 0, bad));
        }
        Kit.dueThrow("letter which 2", Kit.INDEX, () -> z.letter(0, 2, 0));
        Kit.dueThrow("leap what 2", Kit.INDEX, () -> z.leap(0, 0, 2));
        Kit.dueThrow("zone what 8", Kit.INDEX, () -> z.zone(0, 8));
        Kit.dueThrow("zone what -1", Kit.INDEX, () -> z.zone(0, -1));
        Kit.dueThrow("type what 6", Kit.INDEX, () -> z.type(0, 0, 6));
        Kit.dueThrow("type what -1", Kit.INDEX, () -> z.type(0, 0, -1));
        Kit.dueThrow("letter 18 of CHAR", Kit.INDEX, () -> z.letter(0, 0, 18));
        Kit.dueThrow("letter -1 of CHAR", Kit.INDEX, () -> z.letter(0, 0, -1));
        Kit.dueThrow("letter 22 of the text", Kit.INDEX, () -> z.letter(0, 1, 22));
        Kit.due("letter 21 of the text", z.letter(0, 1, 21), '0');
        Kit.dueThrow("leap of a zone without", Kit.INDEX, () -> z.leap(1, 0, 0));
    }
}
