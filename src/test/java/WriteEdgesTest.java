import java.util.Arrays;

/** Promises 22 (write), 23 (out) and 24 (again) at their edges. */
public final class WriteEdgesTest {
    private static final int[] VERSIONS = {0, 50, 51};

    public static void main(String[] args) {
        leastAndFullest();
        asVersion0();
        asOthers();
        versions();
        whatIsThrown();
        fourBytes();
        fourBytesOfLeaps();
        textsThatNeed51();
        out();
        again();
        readAgain();
        Kit.end();
    }

    /** The bytes that are due for a ZONE that was read from a tape. */
    private static byte[] due(Kit.Tape tape, int version) {
        Kit.Tape copy = new Kit.Tape();
        copy.version = version;
        copy.times = tape.times;
        copy.timeTypes = tape.timeTypes;
        copy.types = tape.types;
        copy.chars = tape.chars;
        copy.leaps = tape.leaps;
        copy.stds = tape.stds;
        copy.uts = tape.uts;
        copy.rule = tape.rule;
        byte[] all = copy.bytes();
        Arrays.fill(all, 5, 20, (byte) 0);
        if (version != 0) {
            Arrays.fill(all, 44, 51, (byte) 0);
            Arrays.fill(all, 56, 71, (byte) 0);
        }
        return all;
    }

    /** Not all bytes can be asked of one object, by its 512 calls: each one tells a part. */
    private static byte[] written(Kit.Tape tape, int zone, int version) {
        byte[] file = tape.bytes();
        byte[] all = new byte[0];
        int from = 0;
        do {
            ZoneFiles z = new ZoneFiles();
            Kit.due("read", Kit.read(z, zone, file), 0);
            int size = z.write(zone, version);
            all = Arrays.copyOf(all, size);
            for (int calls = 0; calls < 100 && from < size; calls++) {
                all[from] = (byte) z.out(from);
                from++;
            }
        } while (from < all.length);
        return all;
    }

    private static void same(String what, byte[] got, byte[] want) {
        Kit.due(what, Arrays.toString(got), Arrays.toString(want));
    }

    private static void leastAndFullest() {
        Kit.sentence(22, "A ZONE is WRITTEN as a FILE with a VERSION byte");
        for (int version : VERSIONS) {
            Kit.Tape least = new Kit.Tape();
            same("the least ZONE", written(least, 0, version), due(least, version));
            Kit.Tape full = Kit.full(51);
            same("the fullest ZONE", written(full, 3, version), due(full, version));
        }
        Kit.sentence(22, "Answers how many bytes");
        ZoneFiles z = new ZoneFiles();
        Kit.due("a new ZONE as 0", z.write(0, 0), 44 + 6 + 4);
        Kit.due("a new ZONE as 50", z.write(0, 50), 44 + 7 + 44 + 6 + 4 + 6);
        Kit.due("the fullest as 51", Kit.read(z, 0, Kit.full(0).bytes()), 0);
        Kit.due("the fullest as 0", z.write(0, 0), 44 + 200 * 5 + 40 * 6 + 200 + 40 * 8 + 40 + 40);
        Kit.due("the fullest as 51", z.write(0, 51), 95 + 200 * 9 + 40 * 6 + 200 + 40 * 12 + 40 + 40 + 2);
    }

    private static void asVersion0() {
        Kit.sentence(22, "with 0 its BLOCK of width 4 alone");
        ZoneFiles z = Kit.ruled("ABC0DEF,J100/-1,J200/167", true);
        byte[] file = Kit.written(z, 0, 0);
        Kit.due("how many", file.length, 44 + 12 + 8);
        same("its HEADER", Arrays.copyOf(file, 44), header(0, 0, 0, 0, 0, 2, 8));
        z.again();
        Kit.due("read", z.read(1), 0);
        Kit.due("without a RULE", z.zone(1, 7), 0);
        Kit.due("VERSION 0", z.zone(1, 0), 0);
        Kit.due("the ZONE itself keeps its RULE", z.zone(0, 7), 24);
    }

    private static byte[] header(int version, int... counts) {
        byte[] header = {84, 90, 105, 102, (byte) version, 0, 0, 0, 0, 0, 0, 0, 0, 0, 0, 0, 0, 0, 0, 0};
        header = Arrays.copyOf(header, 44);
        for (int i = 0; i < 6; i++) {
            header[23 + 4 * i] = (byte) counts[i];
        }
        return header;
    }

    private static void asOthers() {
        Kit.sentence(22, "else its first HEADER's COUNTS are 0 0 0 0 1 1 (and the BLOCK's 7 bytes 0), then its own BLOCK and FOOTER");
        for (int version : new int[] {50, 51}) {
            ZoneFiles z = Kit.ruled("ABC0DEF,J100,J200", true);
            Kit.due("stretch", z.stretch(0, 1970), 2);
            byte[] file = Kit.written(z, 0, version);
            same("the first HEADER", Arrays.copyOf(file, 44), header(version, 0, 0, 0, 0, 1, 1));
            same("the first BLOCK", Arrays.copyOfRange(file, 44, 51), new byte[7]);
            same("the second HEADER", Arrays.copyOfRange(file, 51, 95), header(version, 0, 0, 0, 2, 2, 8));
            same("the FOOTER", Arrays.copyOfRange(file, 95 + 18 + 12 + 8, file.length), Kit.bytes("\nABC0DEF,J100,J200\n"));
        }
        ZoneFiles none = Kit.filed(new Kit.Tape());
        byte[] file = Kit.written(none, 0, 50);
        same("a FOOTER without a RULE TEXT", Arrays.copyOfRange(file, 105, file.length), new byte[] {10, 10});
        Kit.sentence(22, "Reserved bytes are 0");
        Kit.Tape tape = Kit.full(51);
        ZoneFiles z = Kit.filed(tape);
        z.write(0, 51);
        for (int i = 5; i < 20; i++) {
            Kit.due("byte " + i, z.out(i), 0);
            Kit.due("byte " + (51 + i), z.out(51 + i), 0);
        }
    }

    private static void versions() {
        Kit.sentence(22, "IllegalArgumentException: another VERSION");
        ZoneFiles z = new ZoneFiles();
        for (int version : VERSIONS) {
            z.write(2, version);
            Kit.due("the VERSION byte", z.out(4), version);
            Kit.due("the ZONE's own stays", z.zone(2, 0), 50);
        }
        for (int bad : new int[] {Integer.MIN_VALUE, -1, 1, 2, 3, 48, 49, 52, 256, 306, 307, Integer.MAX_VALUE}) {
            Kit.dueThrow("write(2, " + bad + ")", Kit.ARGUMENT, () -> z.write(2, bad));
        }
        Kit.due("what was WRITTEN stays", z.out(4), 51);
    }

    private static void whatIsThrown() {
        ZoneFiles z = Kit.ruled("ABC0DEF,J100/-1,J200", true);
        for (int bad : new int[] {Integer.MIN_VALUE, -1, 4, Integer.MAX_VALUE}) {
            Kit.sentence(22, "IndexOutOfBoundsException: there is no such ZONE");
            Kit.dueThrow("write(" + bad + ", 50)", Kit.INDEX, () -> z.write(bad, 50));
            Kit.sentence(22, "the one named first when several would do");
            Kit.dueThrow("write(" + bad + ", 7)", Kit.INDEX, () -> z.write(bad, 7));
        }
        Kit.dueThrow("another VERSION", Kit.ARGUMENT, () -> z.write(0, 49));
        Kit.dueThrow("a text that needs 51", Kit.STATE, () -> z.write(0, 50));
        Kit.sentence(22, "A call that throws changes nothing");
        Kit.dueThrow("nothing was WRITTEN", Kit.INDEX, () -> z.out(0));
        Kit.due("nothing comes on the tape", z.again(), 0);
    }

    private static void fourBytes() {
        Kit.sentence(22, "with 0: a time (of a leap record, too) that is no signed number of four bytes");
        for (int place = 0; place < 3; place++) {
            for (long time : new long[] {Integer.MIN_VALUE, Integer.MAX_VALUE, Integer.MIN_VALUE - 1L, Integer.MAX_VALUE + 1L, Kit.LEAST, Kit.GREATEST, 1L << 32}) {
                boolean low = time < 0;
                Kit.Tape tape = new Kit.Tape();
                tape.times = new long[place + 1];
                for (int i = 0; i <= place; i++) {
                    tape.times[i] = low ? time + i : time - place + i;
                }
                tape.timeTypes = new int[place + 1];
                ZoneFiles z = Kit.filed(tape);
                if (time == (int) time) {
                    Kit.due("time " + time, z.write(0, 0), 54 + 5 * (place + 1));
                } else {
                    Kit.dueThrow("time " + time, Kit.STATE, () -> z.write(0, 0));
                    Kit.dueThrow("nothing was WRITTEN", Kit.INDEX, () -> z.out(0));
                }
                Kit.due("as 50", z.write(0, 50), 95 + 9 * (place + 1) + 12);
                Kit.due("as 51", z.write(0, 51), 95 + 9 * (place + 1) + 12);
            }
        }
    }

    private static void fourBytesOfLeaps() {
        Kit.sentence(22, "with 0: a time (of a leap record, too) that is no signed number of four bytes");
        for (int count = 1; count <= 3; count++) {
            for (long time : new long[] {Integer.MAX_VALUE, Integer.MAX_VALUE + 1L, 1L << 32, Long.MAX_VALUE}) {
                Kit.Tape tape = new Kit.Tape();
                tape.leaps = new long[count][];
                for (int i = 0; i < count; i++) {
                    tape.leaps[i] = new long[] {i == count - 1 ? time : 2419199L * i, i + 1};
                }
                ZoneFiles z = Kit.filed(tape);
                if (time == Integer.MAX_VALUE) {
                    Kit.due("leap " + time, z.write(0, 0), 54 + 8 * count);
                } else {
                    Kit.dueThrow("leap " + time, Kit.STATE, () -> z.write(0, 0));
                }
                Kit.due("as 50", z.write(0, 50), 95 + 12 * count + 12);
            }
        }
    }

    private static void textsThatNeed51() {
        Kit.sentence(22, "with 50: the RULE TEXT needs 51");
        String[] narrow = {"ABC0", "ABC-24:59:59", "ABC0DEF,0,1", "ABC+0DEF-0,0,1", "ABC0DEF,0/24,1/24:59:59", "ABC0DEF,0/0,1/024"};
        for (String text : narrow) {
            ZoneFiles z = Kit.ruled(text, true);
            int types = z.zone(0, 2);
            Kit.due("VERSION 51 is the ZONE's", z.zone(0, 0), 51);
            Kit.due(text + " as 50", z.write(0, 50), 95 + 6 * types + 4 * types + 2 + text.length());
            z.again();
            Kit.due("it can be read again", z.read(1), 0);
            Kit.due("with VERSION 50", z.zone(1, 0), 50);
        }
        String[] wide = {"ABC0DEF,0/25,1", "ABC0DEF,0,1/25", "ABC0DEF,0/167:59:59,1", "ABC0DEF,0/+0,1", "ABC0DEF,0/-0,1", "ABC0DEF,0,1/+2", "ABC0DEF,0,1/-2",
            "ABC0DEF,0/-1,1/2", "ABC0DEF,0/2,1/-1"};
        for (String text : wide) {
            ZoneFiles z = Kit.ruled(text, true);
            Kit.dueThrow(text + " as 50", Kit.STATE, () -> z.write(0, 50));
            Kit.due(text + " as 51", z.write(0, 51), 95 + 12 + 8 + 2 + text.length());
            Kit.due(text + " as 0", z.write(0, 0), 44 + 12 + 8);
            Kit.Tape tape = new Kit.Tape();
            tape.version = 51;
            tape.rule = text;
            ZoneFiles w = Kit.filed(tape);
            Kit.dueThrow(text + " of a file as 50", Kit.STATE, () -> w.write(0, 50));
            Kit.due("a lesser text in its place", Kit.rule(w, 0, "ABC0DEF,0,1", true), 0);
            Kit.due("as 50", w.write(0, 50), 95 + 12 + 8 + 2 + 11);
        }
    }

    private static void out() {
        Kit.sentence(23, "Byte i of what was WRITTEN last");
        ZoneFiles z = new ZoneFiles();
        Kit.dueThrow("out(0) before a write", Kit.INDEX, () -> z.out(0));
        int wide = z.write(0, 50);
        Kit.due("the first byte", z.out(0), 84);
        Kit.due("the last byte", z.out(wide - 1), 10);
        for (int bad : new int[] {Integer.MIN_VALUE, -1, wide, wide + 1, 6000, Integer.MAX_VALUE}) {
            Kit.dueThrow("out(" + bad + ")", Kit.INDEX, () -> z.out(bad));
        }
        int less = z.write(0, 0);
        Kit.due("the last byte of a lesser one", z.out(less - 1), 0);
        Kit.dueThrow("nothing of the greater one", Kit.INDEX, () -> z.out(less));
        Kit.dueThrow("nothing of the greater one", Kit.INDEX, () -> z.out(wide - 1));
        Kit.Tape tape = new Kit.Tape();
        tape.chars = "UTC\0\u00ff\u0080\u007f";
        tape.types = new int[][] {{-1, 0, 0}};
        ZoneFiles w = Kit.filed(tape);
        w.write(0, 0);
        Kit.due("bytes are 0 .. 255", w.out(44), 255);
        Kit.due("bytes are 0 .. 255", w.out(54), 255);
        Kit.due("bytes are 0 .. 255", w.out(55), 128);
        Kit.due("bytes are 0 .. 255", w.out(56), 127);
        Kit.due("a ZONE that changes leaves what was WRITTEN", Kit.rule(w, 0, "ABC0", false), 0);
        Kit.due("byte 54", w.out(54), 255);
    }

    private static void again() {
        Kit.sentence(24, "What was WRITTEN last comes on the tape, instead of what is there");
        ZoneFiles z = new ZoneFiles();
        z.feed(3, 0L);
        int size = z.write(0, 50);
        Kit.due("write leaves the tape", z.feed(1, 0L), 4);
        Kit.due("again()", z.again(), size);
        Kit.due("again(), once more", z.again(), size);
        Kit.due("one octet more", z.feed(1, 0L), size + 1);
        Kit.due("read", z.read(1), 16);
        Kit.due("place", z.place(), size);
        Kit.due("what was WRITTEN is still there", z.again(), size);
        Kit.due("read", z.read(1), 0);
        Kit.due("out", z.out(size - 1), 10);
        int less = z.write(0, 0);
        Kit.due("the last one counts", z.again(), less);
        Kit.due("read", z.read(1), 0);
        Kit.due("its VERSION", z.zone(1, 0), 0);
        Kit.sentence(24, "Answers the tape's size");
        Kit.due("a full ZONE", Kit.read(z, 2, Kit.full(51).bytes()), 0);
        int full = z.write(2, 51);
        Kit.due("again()", z.again(), full);
        Kit.due("one octet more", z.feed(1, 0L), full + 1);
    }

    private static void readAgain() {
        Kit.sentence(24, "What was WRITTEN last comes on the tape");
        for (int version : VERSIONS) {
            ZoneFiles z = new ZoneFiles();
            Kit.due("a full ZONE", Kit.read(z, 0, Kit.full(version).bytes()), 0);
            z.write(0, version);
            z.again();
            Kit.due("read", z.read(1), 0);
            for (int what = 0; what < 8; what++) {
                Kit.due("zone(1, " + what + ")", z.zone(1, what), z.zone(0, what));
            }
            int size = z.write(1, version);
            byte[] due = due(Kit.full(version), version);
            Kit.due("its size", size, due.length);
            for (int i = size - 50; i < size; i++) {
                Kit.due("out(" + i + ")", z.out(i), due[i] & 255);
            }
        }
    }
}
