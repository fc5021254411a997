import java.util.Arrays;

/** Promises 22 (write), 23 (out) and 24 (again). */
public final class WriteTest {
    public static void main(String[] args) {
        bytes();
        newZone();
        needs();
        again();
        wrong();
        Kit.end();
    }

    private static Kit.Tape rich(int version) {
        Kit.Tape tape = new Kit.Tape();
        tape.version = version;
        tape.times = new long[] {Integer.MIN_VALUE, -1L, Integer.MAX_VALUE};
        tape.timeTypes = new int[] {1, 0, 1};
        tape.types = new int[][] {{-89999, 1, 0}, {93599, 0, 4}};
        tape.chars = "AAA\0+-09\0\u00ff";
        tape.leaps = new long[][] {{5L, -1}, {Integer.MAX_VALUE, -2}};
        tape.stds = new int[] {1, 0};
        tape.uts = new int[] {1, 0};
        return tape;
    }

    /** What the document asks: reserved bytes 0, and a first BLOCK of seven bytes 0. */
    private static byte[] asWritten(Kit.Tape tape, int version) {
        tape.version = version;
        tape.firstCounts = new int[] {0, 0, 0, 0, 1, 1};
        byte[] all = tape.bytes();
        Arrays.fill(all, 5, 20, (byte) 0);
        if (version != 0) {
            Arrays.fill(all, 44, 51, (byte) 0);
            Arrays.fill(all, 56, 71, (byte) 0);
        }
        return all;
    }

    private static void bytes() {
        for (int from : new int[] {0, 50, 51}) {
            ZoneFiles z = Kit.filed(rich(from));
            for (int to : new int[] {51, 0, 50}) {
                byte[] due = asWritten(rich(from), to);
                byte[] got = Kit.written(z, 0, to);
                Kit.due("write " + from + " as " + to, Arrays.equals(due, got), true);
                Kit.dueThrow("out behind", Kit.INDEX, () -> z.out(due.length));
                Kit.dueThrow("out before", Kit.INDEX, () -> z.out(-1));
            }
            Kit.due("the zone keeps its version", z.zone(0, 0), from);
        }
    }

    private static void newZone() {
        ZoneFiles z = new ZoneFiles();
        Kit.Tape tape = new Kit.Tape();
        tape.rule = "UTC0";
        Kit.due("version 50", Arrays.equals(asWritten(tape, 50), Kit.written(z, 3, 50)), true);
        Kit.due("version 51", Arrays.equals(asWritten(tape, 51), Kit.written(z, 3, 51)), true);
        Kit.due("version 0", Arrays.equals(asWritten(tape, 0), Kit.written(z, 3, 0)), true);
    }

    private static void needs() {
        String[] narrow = {"AAA1BBB,1/24:59:59,2/0", "AAA-1BBB+2,M1.1.1,J1", "AAA0"};
        for (String text : narrow) {
            Kit.due("write " + text, Kit.ruled(text, true).write(0, 50), Kit.ruled(text, false).write(0, 50));
        }
        String[] wide = {"AAA1BBB,1/25,2", "AAA1BBB,1,2/25", "AAA1BBB,1/+2,2", "AAA1BBB,1,2/-0", "AAA1BBB,1/-1,2/-1"};
        for (String text : wide) {
            ZoneFiles z = Kit.ruled(text, true);
            Kit.dueThrow("write " + text, Kit.STATE, () -> z.write(0, 50));
            Kit.dueThrow("nothing was written", Kit.INDEX, () -> z.out(0));
            Kit.due("write " + text, z.write(0, 51), 51 + 44 + 12 + 8 + 2 + text.length());
            Kit.due("write as 0 " + text, z.write(0, 0), 44 + 12 + 8);
            Kit.due("a narrow rule at that place", Kit.rule(z, 0, "AAA0", true), 0);
            Kit.due("write", z.write(0, 50), 51 + 44 + 6 + 4 + 2 + 4);
        }
        for (long time : new long[] {Integer.MIN_VALUE - 1L, Integer.MAX_VALUE + 1L}) {
            Kit.Tape tape = new Kit.Tape();
            tape.times = new long[] {time};
            tape.timeTypes = new int[] {0};
            ZoneFiles z = Kit.filed(tape);
            Kit.dueThrow("a time of more bytes", Kit.STATE, () -> z.write(0, 0));
            Kit.due("as 50", z.write(0, 50), 51 + 44 + 9 + 6 + 4 + 2);
        }
        Kit.Tape tape = new Kit.Tape();
        tape.leaps = new long[][] {{5L, 1}, {1L << 31, 2}};
        ZoneFiles z = Kit.filed(tape);
        Kit.dueThrow("a leap record's time of more bytes", Kit.STATE, () -> z.write(0, 0));
        Kit.due("as 51", z.write(0, 51), 51 + 44 + 6 + 4 + 24 + 2);
        tape.leaps = new long[][] {{1L << 31, 1}};
        ZoneFiles one = Kit.filed(tape);
        Kit.dueThrow("the only leap record's time", Kit.STATE, () -> one.write(0, 0));
    }

    private static void again() {
        ZoneFiles z = Kit.filed(rich(51));
        Kit.feed(z, new byte[] {1, 2, 3});
        Kit.due("nothing was written: an empty tape", z.again(), 0);
        Kit.due("an empty tape", z.feed(1, 0L), 1);
        byte[] file = Kit.written(z, 0, 50);
        Kit.due("instead of what is there", z.again(), file.length);
        Kit.due("read", z.read(1), 0);
        Kit.due("version", z.zone(1, 0), 50);
        Kit.due("again, as it stays written", z.again(), file.length);
        Kit.due("and more", z.feed(2, 0L), file.length + 2);
        Kit.due("read", z.read(2), 16);
        Kit.due("place", z.place(), file.length);
        Kit.due("what was written stays", z.out(0), 84);
        Kit.due("the other zone", Arrays.equals(file, Kit.written(z, 1, 50)), true);
    }

    private static void wrong() {
        ZoneFiles z = Kit.ruled("AAA1BBB,1/25,2", true);
        int size = z.write(0, 51);
        for (int bad : new int[] {-1, 4, Integer.MIN_VALUE, Integer.MAX_VALUE}) {
            Kit.dueThrow("zone", Kit.INDEX, () -> z.write(bad, 7));
        }
        for (int bad : new int[] {-1, 1, 2, 49, 52, 306, Integer.MIN_VALUE, Integer.MAX_VALUE}) {
            Kit.dueThrow("version", Kit.ARGUMENT, () -> z.write(0, bad));
        }
        Kit.dueThrow("needs 51", Kit.STATE, () -> z.write(0, 50));
        Kit.due("what was written stays", z.again(), size);
        Kit.due("with its version", z.out(4), 51);
        Kit.dueThrow("out", Kit.INDEX, () -> z.out(Integer.MAX_VALUE));
        Kit.dueThrow("out", Kit.INDEX, () -> z.out(Integer.MIN_VALUE));
    }
}
