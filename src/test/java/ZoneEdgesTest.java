/** Promises 7 to 12 (zone, time, typeAt, type, letter, leap): a new ZONE, a full one, and numbers that are not there. */
public final class ZoneEdgesTest {
    private static final int[] NO_ZONES = {Integer.MIN_VALUE, -1, 4, Integer.MAX_VALUE};

    public static void main(String[] args) {
        zone();
        times();
        types();
        marks();
        letters();
        leaps();
        emptyRows();
        Kit.end();
    }

    private static ZoneFiles full(int version, int zone) {
        ZoneFiles z = new ZoneFiles();
        Kit.due("read", Kit.read(z, zone, Kit.full(version).bytes()), 0);
        return z;
    }

    /** Numbers that are below 0, or not below a count. */
    private static int[] outside(int count) {
        return new int[] {Integer.MIN_VALUE, -1, count, count + 1, 1000, Integer.MAX_VALUE};
    }

    private static void zone() {
        for (int version : new int[] {0, 50, 51}) {
            for (int own = 0; own < 4; own++) {
                Kit.sentence(7, "the VERSION byte (what = 0), how many times (1), types (2), bytes of CHAR (3)");
                ZoneFiles z = full(version, own);
                int[] counts = {version, 200, 40, 200, 40, 40, 40, 0};
                int[] others = {50, 0, 1, 4, 0, 0, 0, 4};
                for (int i = 0; i < 4; i++) {
                    for (int what = 0; what < 8; what++) {
                        Kit.due("zone(" + i + ", " + what + ")", z.zone(i, what), i == own ? counts[what] : others[what]);
                    }
                }
            }
        }
        Kit.sentence(7, "IndexOutOfBoundsException: also of what");
        ZoneFiles z = full(50, 0);
        for (int bad : outside(8)) {
            Kit.dueThrow("zone(0, " + bad + ")", Kit.INDEX, () -> z.zone(0, bad));
            Kit.dueThrow("zone(3, " + bad + ")", Kit.INDEX, () -> z.zone(3, bad));
        }
        for (int bad : NO_ZONES) {
            for (int what = 0; what < 8; what++) {
                int own = what;
                Kit.dueThrow("zone(" + bad + ", " + what + ")", Kit.INDEX, () -> z.zone(bad, own));
            }
        }
    }

    private static void times() {
        for (int version : new int[] {0, 51}) {
            ZoneFiles z = full(version, 2);
            Kit.Tape tape = Kit.full(version);
            for (int i : new int[] {0, 1, 39, 40, 198, 199}) {
                Kit.sentence(8, "Time i of a ZONE");
                Kit.due("time(2, " + i + ")", z.time(2, i), tape.times[i]);
                Kit.sentence(9, "The type of time i");
                Kit.due("typeAt(2, " + i + ")", z.typeAt(2, i), tape.timeTypes[i]);
            }
            for (int bad : outside(200)) {
                Kit.sentence(8, "IndexOutOfBoundsException");
                Kit.dueThrow("time(2, " + bad + ")", Kit.INDEX, () -> z.time(2, bad));
                Kit.sentence(9, "IndexOutOfBoundsException");
                Kit.dueThrow("typeAt(2, " + bad + ")", Kit.INDEX, () -> z.typeAt(2, bad));
            }
            for (int bad : NO_ZONES) {
                Kit.sentence(8, "IndexOutOfBoundsException");
                Kit.dueThrow("time(" + bad + ", 0)", Kit.INDEX, () -> z.time(bad, 0));
                Kit.sentence(9, "IndexOutOfBoundsException");
                Kit.dueThrow("typeAt(" + bad + ", 0)", Kit.INDEX, () -> z.typeAt(bad, 0));
            }
        }
        Kit.sentence(8, "Time i of a ZONE");
        Kit.Tape ends = new Kit.Tape();
        ends.times = new long[] {Kit.LEAST, Kit.GREATEST};
        ends.timeTypes = new int[2];
        ZoneFiles z = Kit.filed(ends);
        Kit.due("the least", z.time(0, 0), Kit.LEAST);
        Kit.due("the greatest", z.time(0, 1), Kit.GREATEST);
        Kit.dueThrow("none behind it", Kit.INDEX, () -> z.time(0, 2));
    }

    private static void types() {
        ZoneFiles z = full(51, 1);
        Kit.sentence(10, "its offset (what = 0), DST (1), index (2), how many bytes its NAME has (3)");
        for (int i : new int[] {0, 1, 38, 39}) {
            int[] type = {60 * i, i & 1, 5 * i, 4, 1, i & 1};
            for (int what = 0; what < 6; what++) {
                Kit.due("type(1, " + i + ", " + what + ")", z.type(1, i, what), type[what]);
            }
        }
        for (int bad : outside(40)) {
            Kit.dueThrow("type(1, " + bad + ", 0)", Kit.INDEX, () -> z.type(1, bad, 0));
            Kit.dueThrow("type(1, " + bad + ", 5)", Kit.INDEX, () -> z.type(1, bad, 5));
        }
        Kit.sentence(10, "IndexOutOfBoundsException: also of what");
        for (int bad : outside(6)) {
            Kit.dueThrow("type(1, 0, " + bad + ")", Kit.INDEX, () -> z.type(1, 0, bad));
            Kit.dueThrow("type(1, 39, " + bad + ")", Kit.INDEX, () -> z.type(1, 39, bad));
        }
        for (int bad : NO_ZONES) {
            Kit.dueThrow("type(" + bad + ", 0, 0)", Kit.INDEX, () -> z.type(bad, 0, 0));
        }
        Kit.sentence(10, "its offset (what = 0)");
        Kit.Tape ends = new Kit.Tape();
        ends.types = new int[][] {{-89999, 1, 0}, {93599, 0, 3}, {0, 0, 4}};
        ends.chars = "XYZABCDEFG\0";
        ZoneFiles w = Kit.filed(ends);
        Kit.due("the least offset", w.type(0, 0, 0), -89999);
        Kit.due("the greatest offset", w.type(0, 1, 0), 93599);
        Kit.sentence(10, "how many bytes its NAME has (3)");
        Kit.due("ten", w.type(0, 0, 3), 10);
        Kit.due("seven", w.type(0, 1, 3), 7);
        Kit.due("six", w.type(0, 2, 3), 6);
        Kit.due("three, of a new ZONE", w.type(1, 0, 3), 3);
    }

    private static void marks() {
        Kit.sentence(10, "its STD (4; 0 when there is none), its UT (5; likewise)");
        for (int marks = 0; marks < 4; marks++) {
            Kit.Tape tape = new Kit.Tape();
            tape.types = new int[][] {{0, 0, 0}, {1, 0, 0}};
            tape.stds = marks % 2 == 0 ? new int[0] : new int[] {0, 1};
            tape.uts = marks < 2 ? new int[0] : new int[] {0, marks == 3 ? 1 : 0};
            ZoneFiles z = new ZoneFiles();
            // A full one was there before: nothing of its marks is left.
            for (int i = 0; i < 2; i++) {
                Kit.Tape old = new Kit.Tape();
                old.types = tape.types;
                old.stds = new int[] {1, 1};
                old.uts = new int[] {1, 1};
                Kit.due("read", Kit.read(z, 0, old.bytes()), 0);
            }
            Kit.due("read", Kit.read(z, 0, tape.bytes()), 0);
            Kit.due("how many STD", z.zone(0, 5), tape.stds.length);
            Kit.due("how many UT", z.zone(0, 6), tape.uts.length);
            Kit.due("STD 0", z.type(0, 0, 4), 0);
            Kit.due("STD 1", z.type(0, 1, 4), marks % 2);
            Kit.due("UT 0", z.type(0, 0, 5), 0);
            Kit.due("UT 1", z.type(0, 1, 5), marks == 3 ? 1 : 0);
        }
    }

    private static void letters() {
        Kit.sentence(11, "Byte i of CHAR (which = 0), of the RULE TEXT (1)");
        Kit.Tape tape = new Kit.Tape();
        tape.chars = "UTC\0\u00ff\u0080\n\0" + "x".repeat(191) + "y";
        tape.rule = "ABC24";
        ZoneFiles z = Kit.filed(tape);
        for (int i : new int[] {0, 3, 4, 5, 6, 7, 8, 198, 199}) {
            Kit.due("letter(0, 0, " + i + ")", z.letter(0, 0, i), tape.chars.charAt(i));
        }
        for (int i = 0; i < 5; i++) {
            Kit.due("letter(0, 1, " + i + ")", z.letter(0, 1, i), tape.rule.charAt(i));
        }
        for (int bad : outside(200)) {
            Kit.dueThrow("letter(0, 0, " + bad + ")", Kit.INDEX, () -> z.letter(0, 0, bad));
        }
        for (int bad : outside(5)) {
            Kit.dueThrow("letter(0, 1, " + bad + ")", Kit.INDEX, () -> z.letter(0, 1, bad));
        }
        Kit.sentence(11, "IndexOutOfBoundsException: also of which");
        for (int bad : outside(2)) {
            Kit.dueThrow("letter(0, " + bad + ", 0)", Kit.INDEX, () -> z.letter(0, bad, 0));
        }
        for (int bad : NO_ZONES) {
            Kit.dueThrow("letter(" + bad + ", 0, 0)", Kit.INDEX, () -> z.letter(bad, 0, 0));
            Kit.dueThrow("letter(" + bad + ", 1, 0)", Kit.INDEX, () -> z.letter(bad, 1, 0));
        }
    }

    private static void leaps() {
        Kit.sentence(12, "its time (what = 0), its correction (1)");
        for (int version : new int[] {0, 50}) {
            ZoneFiles z = full(version, 3);
            for (int i : new int[] {0, 1, 38, 39}) {
                Kit.due("leap(3, " + i + ", 0)", z.leap(3, i, 0), 2419199L * i);
                Kit.due("leap(3, " + i + ", 1)", z.leap(3, i, 1), i + 1);
            }
            for (int bad : outside(40)) {
                Kit.dueThrow("leap(3, " + bad + ", 0)", Kit.INDEX, () -> z.leap(3, bad, 0));
                Kit.dueThrow("leap(3, " + bad + ", 1)", Kit.INDEX, () -> z.leap(3, bad, 1));
            }
            Kit.sentence(12, "IndexOutOfBoundsException: also of what");
            for (int bad : outside(2)) {
                Kit.dueThrow("leap(3, 0, " + bad + ")", Kit.INDEX, () -> z.leap(3, 0, bad));
            }
            for (int bad : NO_ZONES) {
                Kit.dueThrow("leap(" + bad + ", 0, 0)", Kit.INDEX, () -> z.leap(bad, 0, 0));
            }
        }
        Kit.sentence(12, "its time (what = 0), its correction (1)");
        Kit.Tape tape = new Kit.Tape();
        tape.leaps = new long[40][];
        for (int i = 0; i < 40; i++) {
            tape.leaps[i] = new long[] {Long.MAX_VALUE - 2419199L * (39 - i), -1 - i};
        }
        ZoneFiles z = Kit.filed(tape);
        Kit.due("the greatest time", z.leap(0, 39, 0), Long.MAX_VALUE);
        Kit.due("the least correction", z.leap(0, 39, 1), -40);
        Kit.due("the first correction", z.leap(0, 0, 1), -1);
    }

    /** What a ZONE has none of has no number 0. */
    private static void emptyRows() {
        ZoneFiles z = Kit.filed(new Kit.Tape());
        Kit.sentence(8, "IndexOutOfBoundsException");
        Kit.dueThrow("time(0, 0)", Kit.INDEX, () -> z.time(0, 0));
        Kit.sentence(9, "IndexOutOfBoundsException");
        Kit.dueThrow("typeAt(0, 0)", Kit.INDEX, () -> z.typeAt(0, 0));
        Kit.sentence(11, "IndexOutOfBoundsException: also of which");
        Kit.dueThrow("letter(0, 1, 0)", Kit.INDEX, () -> z.letter(0, 1, 0));
        Kit.sentence(12, "IndexOutOfBoundsException: also of what");
        Kit.dueThrow("leap(0, 0, 0)", Kit.INDEX, () -> z.leap(0, 0, 0));
    }
}
