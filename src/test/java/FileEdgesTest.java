import java.util.ArrayList;
import java.util.Arrays;
import java.util.List;

/** Promises 3 (read) and 6 (place): each FAULT of a FILE, with the last input that is taken and the first that is not. */
public final class FileEdgesTest {
    private static final int[] VERSIONS = {0, 50, 51};

    public static void main(String[] args) {
        leastAndFullest();
        magic();
        versions();
        reserved();
        countsTaken();
        countsRefused();
        countsInTheirOrder();
        greatCounts();
        endsWithinHeaders();
        endsWithinRows();
        endsWithinLongRows();
        blockNotLookedAt();
        footer();
        times();
        typesOfTimes();
        offsets();
        dsts();
        indexes();
        names();
        nameBytes();
        leapTimes();
        corrections();
        marks();
        bytesBehind();
        lastTimes();
        firstOneIsTold();
        placeOfTheLast();
        zonesPlace();
        Kit.end();
    }

    private static void taken(String what, Kit.Tape tape) {
        taken(what, tape.bytes());
    }

    private static void taken(String what, byte[] tape) {
        ZoneFiles z = new ZoneFiles();
        Kit.due(what + ": read", Kit.read(z, 3, tape), 0);
        Kit.due(what + ": place", z.place(), -1);
        Kit.due(what + ": the tape is used up", z.feed(1, 0L), 1);
    }

    private static void refused(String what, byte[] tape, int fault, int place) {
        ZoneFiles z = new ZoneFiles();
        Kit.due(what + ": read", Kit.read(z, 3, tape), fault);
        Kit.due(what + ": place", z.place(), place);
        Kit.due(what + ": the ZONE stays", Kit.letters(z, 3, 1), "UTC0");
        Kit.due(what + ": the tape is used up", z.feed(1, 0L), 1);
    }

    /** Three of each, so that a first, a middle and a last one can be wrong. */
    private static Kit.Tape three(int version) {
        Kit.Tape tape = new Kit.Tape();
        tape.version = version;
        tape.times = new long[] {-100L, 0L, 100L};
        tape.timeTypes = new int[] {1, 2, 0};
        tape.types = new int[][] {{-18000, 0, 0}, {-14400, 1, 4}, {60, 0, 8}};
        tape.chars = "EST\0EDT\0+-9\0";
        tape.leaps = new long[][] {{0L, 1}, {3000000L, 2}, {6000000L, 1}};
        tape.stds = new int[] {1, 0, 1};
        tape.uts = new int[] {1, 0, 0};
        tape.rule = version == 0 ? "" : "EST5EDT,M3.2.0,M11.1.0";
        tape.firstCounts = new int[] {2, 2, 1, 3, 2, 5};
        return tape;
    }

    /** Where the HEADER of the BLOCK that is looked at begins. */
    private static int ownHeader(Kit.Tape tape) {
        return tape.place(0) - 44;
    }

    private static int[] headers(Kit.Tape tape) {
        return tape.version == 0 ? new int[] {0} : new int[] {0, ownHeader(tape)};
    }

    private static byte[] number(byte[] tape, int place, long number, int width) {
        byte[] copy = tape;
        for (int i = 0; i < width; i++) {
            copy = Kit.with(copy, place + i, (int) (number >>> 8 * (width - 1 - i)));
        }
        return copy;
    }

    private static void leastAndFullest() {
        Kit.sentence(3, "LEAP 0 .. 40; TIME 0 .. 200; TYPE 1 .. 40; CHAR 1 .. 200");
        for (int version : VERSIONS) {
            Kit.Tape least = new Kit.Tape();
            least.version = version;
            taken("the least FILE of " + version, least);
            least.firstCounts = new int[] {40, 40, 40, 200, 40, 200};
            taken("the fullest BLOCK that is not looked at", least);
            taken("the fullest BLOCK of " + version, Kit.full(version));
        }
    }

    private static void magic() {
        Kit.sentence(3, "2 a wrong one of the first four bytes");
        for (int version : VERSIONS) {
            Kit.Tape tape = three(version);
            byte[] good = tape.bytes();
            for (int start : headers(tape)) {
                for (int i = 0; i < 4; i++) {
                    for (int step : new int[] {-1, 1, 32, 128}) {
                        byte[] bad = Kit.with(good, start + i, good[start + i] + step);
                        refused("byte " + i, bad, 2, start + i);
                        refused("byte " + i + ", the tape's last", Kit.cut(bad, start + i + 1), 2, start + i);
                    }
                }
                refused("the first wrong one", Kit.with(good, start + 1, 0, 0, 0, 0), 2, start + 1);
            }
        }
    }

    private static void versions() {
        Kit.sentence(3, "3 another VERSION, or in the second HEADER another one than in the first");
        for (int version : VERSIONS) {
            Kit.Tape tape = three(version);
            byte[] good = tape.bytes();
            taken("version " + version, good);
            for (int bad : new int[] {1, 48, 49, 52, 53, 128, 178, 179, 255}) {
                for (int start : headers(tape)) {
                    refused("version " + bad, Kit.with(good, start + 4, bad), 3, start + 4);
                    refused("version " + bad + ", the tape's last", Kit.cut(Kit.with(good, start + 4, bad), start + 5), 3, start + 4);
                }
            }
            for (int other : VERSIONS) {
                if (version != 0 && other != version) {
                    int place = ownHeader(tape) + 4;
                    refused("second version " + other + " behind " + version, Kit.with(good, place, other), 3, place);
                }
            }
        }
    }

    private static void reserved() {
        Kit.sentence(3, "15 bytes, whatever they are");
        for (int version : VERSIONS) {
            Kit.Tape tape = three(version);
            byte[] any = tape.bytes();
            for (int octet : new int[] {0, 10, 84, 255}) {
                for (int start : headers(tape)) {
                    Arrays.fill(any, start + 5, start + 20, (byte) octet);
                }
                taken("reserved bytes " + octet, any);
            }
        }
    }

    private static void countsTaken() {
        Kit.sentence(3, "UT and STD 0, or as TYPE");
        for (int version : VERSIONS) {
            for (int marks = 0; marks < 4; marks++) {
                Kit.Tape tape = three(version);
                tape.stds = marks % 2 == 0 ? new int[0] : new int[] {0, 1, 1};
                tape.uts = marks < 2 ? new int[0] : marks == 2 ? new int[3] : new int[] {0, 1, 0};
                tape.firstCounts = new int[] {marks < 2 ? 0 : 7, marks % 2 == 0 ? 0 : 7, 0, 0, 7, 1};
                taken("marks " + marks, tape);
            }
        }
        Kit.sentence(3, "(its first byte; of both HEADERS)");
        int[][] firsts = {{0, 0, 0, 0, 1, 1}, {1, 1, 0, 0, 1, 1}, {0, 0, 40, 0, 1, 1}, {0, 0, 0, 200, 1, 1}, {40, 40, 0, 0, 40, 1}, {0, 0, 0, 0, 1, 200}};
        for (int[] counts : firsts) {
            Kit.Tape tape = three(50);
            tape.firstCounts = counts;
            taken("the first HEADER " + Arrays.toString(counts), tape);
        }
        Kit.sentence(3, "CHAR 1 .. 200");
        Kit.Tape one = new Kit.Tape();
        one.chars = "\0";
        refused("one byte of CHAR is enough for its count, but for no NAME", one.bytes(), 10, one.place(2) + 5);
    }

    private static void countsRefused() {
        Kit.sentence(3, "4 the first of the COUNTS, in their order, that is not");
        for (int version : VERSIONS) {
            Kit.Tape tape = three(version);
            byte[] good = tape.bytes();
            for (int start : headers(tape)) {
                int types = good[start + 39];
                int[][] bad = {{1, types - 1, types + 1, 255}, {1, types - 1, types + 1, 255}, {41, 255}, {201, 255}, {0, 41, 255}, {0, 201, 255}};
                for (int i = 0; i < 6; i++) {
                    for (int count : bad[i]) {
                        // With another TYPE, UT is no more as TYPE, and comes first.
                        int place = start + 20 + (i == 4 ? 0 : 4 * i);
                        if (count != 0 || i > 3) {
                            refused("count " + i + " is " + count, number(good, start + 20 + 4 * i, count, 4), 4, place);
                        }
                    }
                }
                byte[] plain = number(number(good, start + 20, 0, 4), start + 24, 0, 4);
                refused("no TYPE", number(plain, start + 36, 0, 4), 4, start + 36);
                refused("41 TYPES", number(plain, start + 36, 41, 4), 4, start + 36);
                byte[] as41 = number(number(good, start + 20, 41, 4), start + 24, 41, 4);
                refused("UT and STD as 41 TYPES", number(as41, start + 36, 41, 4), 4, start + 36);
            }
        }
    }

    private static void countsInTheirOrder() {
        Kit.sentence(3, "the first of the COUNTS, in their order");
        Kit.Tape tape = three(51);
        byte[] good = tape.bytes();
        for (int start : headers(tape)) {
            for (int first = 0; first < 6; first++) {
                byte[] bad = good;
                for (int i = first; i < 6; i++) {
                    bad = number(bad, start + 20 + 4 * i, 999, 4);
                }
                // TYPE alone being wrong, UT is told; so UT and STD are 0 behind them.
                for (int i = 0; i < Math.min(2, first); i++) {
                    bad = number(bad, start + 20 + 4 * i, 0, 4);
                }
                // Where UT and STD are 999 as TYPE, LEAP is the first.
                refused("wrong from count " + first + " on", bad, 4, start + 20 + 4 * Math.max(2, first));
            }
        }
    }

    private static void greatCounts() {
        Kit.sentence(3, "six COUNTS of four bytes");
        Kit.Tape tape = three(50);
        byte[] good = tape.bytes();
        for (int start : headers(tape)) {
            for (int i = 0; i < 6; i++) {
                int place = start + 20 + 4 * i;
                for (int octet = 0; octet < 3; octet++) {
                    for (int bit : new int[] {1, 128}) {
                        refused("count " + i + " with a high octet", Kit.with(good, place + octet, bit), 4, i == 4 ? start + 20 : place);
                    }
                }
            }
        }
    }

    private static void endsWithinHeaders() {
        Kit.sentence(3, "within a HEADER (once its first five bytes were looked at, as far as they are there)");
        for (int version : VERSIONS) {
            Kit.Tape tape = three(version);
            byte[] good = tape.bytes();
            for (int start : headers(tape)) {
                for (int size = start; size < start + 44; size++) {
                    refused("cut at " + size, Kit.cut(good, size), 1, size);
                    if (size > start + 4) {
                        refused("a wrong version comes first", Kit.cut(Kit.with(good, start + 4, 7), size), 3, start + 4);
                    }
                    if (size > start + 20) {
                        byte[] greatCounts = Kit.with(good, start + 20, 255, 255, 255, 255, 255);
                        refused("COUNTS come behind", Kit.cut(greatCounts, size), 1, size);
                    }
                }
                refused("the whole HEADER is there", Kit.cut(Kit.with(good, start + 40, 255), start + 44), 4, start + 40);
            }
        }
    }

    private static void endsWithinRows() {
        Kit.sentence(3, "a BLOCK's rows (each of the seven by itself");
        for (int version : VERSIONS) {
            Kit.Tape tape = three(version);
            byte[] good = tape.bytes();
            int w = version == 0 ? 4 : 8;
            // The first number of each row is wrong: the FAULT, and its PLACE.
            int[] faults = {5, 6, 7, 10, 11, 13, 13};
            byte[][] bad = new byte[7][];
            bad[0] = number(good, tape.place(0), version == 0 ? 0L : Long.MAX_VALUE, w);
            bad[1] = Kit.with(good, tape.place(1), 3);
            bad[2] = Kit.with(good, tape.place(2), 127);
            bad[3] = Kit.with(good, tape.place(3), '!');
            bad[4] = Kit.with(good, tape.place(4), 128);
            bad[5] = Kit.with(good, tape.place(5), 2);
            bad[6] = Kit.with(good, tape.place(6), 2);
            for (int row = 0; row < 7; row++) {
                int end = tape.place(row + 1);
                int place = row == 3 ? tape.place(2) + 5 : row == 0 && version == 0 ? tape.place(0) + 4 : tape.place(row);
                for (int size = tape.place(row); size < end; size++) {
                    refused("row " + row + " cut", Kit.cut(bad[row], size), 1, size);
                }
                for (int size = end; size < Math.min(end + 3, good.length); size++) {
                    refused("row " + row + " is there", Kit.cut(bad[row], size), faults[row], place);
                }
            }
        }
    }

    /** A FILE with much in one row, and as little as can be in those behind it. */
    private static Kit.Tape muchIn(int version, int row) {
        Kit.Tape full = Kit.full(version);
        Kit.Tape tape = new Kit.Tape();
        tape.version = version;
        if (row <= 1) {
            tape.times = Arrays.copyOf(full.times, 40);
            tape.timeTypes = new int[40];
        }
        if (row == 2 || row >= 5) {
            tape.types = new int[40][];
            Arrays.fill(tape.types, new int[] {0, 0, 0});
        }
        if (row == 3) {
            tape.chars = "UTC\0" + "\n".repeat(196);
        }
        if (row == 4) {
            tape.leaps = full.leaps;
        }
        if (row == 5) {
            tape.stds = full.stds;
        }
        if (row == 6) {
            tape.uts = new int[40];
        }
        return tape;
    }

    private static void endsWithinLongRows() {
        Kit.sentence(3, "where a row of bytes is needed, first 1, if the tape ends within it");
        for (int version : VERSIONS) {
            for (int row = 0; row < 7; row++) {
                Kit.Tape tape = muchIn(version, row);
                byte[] good = tape.bytes();
                taken("much in row " + row, good);
                for (int size = tape.place(row); size < tape.place(row + 1); size++) {
                    refused("row " + row + " cut", Kit.cut(good, size), 1, size);
                }
            }
        }
    }

    private static void blockNotLookedAt() {
        Kit.sentence(3, "a BLOCK of width 4 whose bytes are not looked at");
        for (int octet : new int[] {0, 1, 10, 84, 255}) {
            Kit.Tape tape = three(51);
            byte[] any = tape.bytes();
            Arrays.fill(any, 44, ownHeader(tape), (byte) octet);
            taken("bytes " + octet, any);
        }
        Kit.sentence(3, "of the one that is not looked at all together");
        Kit.Tape tape = three(51);
        byte[] good = tape.bytes();
        for (int octet : new int[] {10, 84}) {
            byte[] any = good.clone();
            Arrays.fill(any, 44, ownHeader(tape), (byte) octet);
            for (int size = 44; size < ownHeader(tape); size++) {
                refused("cut at " + size, Kit.cut(any, size), 1, size);
            }
        }
        refused("its end, and no second HEADER", Kit.cut(good, ownHeader(tape)), 1, ownHeader(tape));
        Kit.sentence(3, "A BLOCK of width w");
        // Each row of that BLOCK counts for its own width.
        int[] sizes = {1, 1, 8, 5, 6, 1};
        for (int i = 0; i < 6; i++) {
            Kit.Tape more = new Kit.Tape();
            more.firstCounts = new int[] {0, 0, 0, 0, 1, 1};
            more.firstCounts[i] = i == 4 ? 2 : 1;
            refused("row of count " + i, Kit.cut(more.bytes(), 44 + 7 + sizes[i] - (i == 5 ? 1 : 0)), 1, 44 + 7 + sizes[i] - (i == 5 ? 1 : 0));
            taken("row of count " + i, more);
        }
    }

    private static void footer() {
        Kit.sentence(3, "or the FOOTER (when it is not there, or no 10 is behind its first byte)");
        Kit.Tape tape = three(50);
        byte[] good = tape.bytes();
        int footer = tape.place(7);
        for (int size = footer; size < good.length; size++) {
            refused("cut at " + size, Kit.cut(good, size), 1, size);
        }
        refused("another first byte, and no 10", Kit.cut(Kit.with(good, footer, 'x'), good.length - 1), 1, good.length - 1);
        refused("another byte alone", Kit.cut(Kit.with(good, footer, 'x'), footer + 1), 1, footer + 1);
        refused("another last byte", Kit.with(good, good.length - 1, 'x'), 1, good.length);
        Kit.sentence(3, "14 a byte of the FOOTER that is not 10 where it has to be");
        for (int octet : new int[] {0, 9, 11, 13, 'E', 138}) {
            refused("first byte " + octet, Kit.with(good, footer, octet), 14, footer);
        }
        refused("first byte, behind it a 10 at once", Kit.with(good, footer, 'x', 10), 14, footer);
        Kit.sentence(3, "RULE TEXTS: none");
        Kit.Tape none = three(50);
        none.rule = "";
        taken("a FOOTER of two bytes", none);
        refused("a FOOTER of one byte", Kit.cut(none.bytes(), none.place(7) + 1), 1, none.place(7) + 1);
        Kit.sentence(3, "a RULE TEXT (no byte of which is 10)");
        refused("a 10 within", Kit.with(good, footer + 3, 10), 15, footer + 3);
        refused("a 10 where the text could end", Kit.with(good, footer + 5, 10), 16, footer + 6);
        Kit.sentence(3, "15 the first byte of a RULE TEXT that can't stand there (behind its last one, when it ends too early)");
        refused("the text's first byte", Kit.with(good, footer + 1, '5'), 15, footer + 1);
        refused("the text's last byte", Kit.with(good, good.length - 2, '7'), 15, good.length - 2);
        tape.rule = "EST5EDT,M3.2.0,M11.1.";
        refused("behind the text's last byte", tape.bytes(), 15, footer + 1 + tape.rule.length());
        Kit.sentence(3, "unless the VERSION is 51");
        for (String text : new String[] {"EST5EDT,J1/|-1,J2", "EST5EDT,J1/|+1,J2", "EST5EDT,J1/|25,J2", "EST5EDT,J1,J2/|167"}) {
            Kit.Tape wide = new Kit.Tape();
            wide.rule = text.replace("|", "");
            refused(text, wide.bytes(), 15, wide.place(7) + 1 + text.indexOf('|'));
            wide.version = 51;
            taken(text, wide);
        }
    }

    private static Kit.Tape timed(int version, long... times) {
        Kit.Tape tape = new Kit.Tape();
        tape.version = version;
        tape.times = times;
        tape.timeTypes = new int[times.length];
        return tape;
    }

    private static void times() {
        Kit.sentence(3, "5 a time that is no INSTANT (2)");
        taken("the least INSTANT", timed(50, Kit.LEAST));
        taken("the greatest INSTANT", timed(50, Kit.GREATEST));
        taken("both", timed(51, Kit.LEAST, Kit.GREATEST));
        for (long bad : new long[] {Kit.LEAST - 1, Kit.GREATEST + 1, Long.MIN_VALUE, Long.MAX_VALUE}) {
            Kit.Tape tape = timed(50, bad);
            refused("time " + bad, tape.bytes(), 5, tape.place(0));
        }
        Kit.Tape behind = timed(51, 5L, Kit.GREATEST, Kit.GREATEST + 1);
        refused("a third time", behind.bytes(), 5, behind.place(0) + 16);
        taken("the least time of four bytes", timed(0, Integer.MIN_VALUE));
        taken("the greatest time of four bytes", timed(0, Integer.MAX_VALUE));
        Kit.sentence(3, "or not above the one before (its first byte)");
        for (int version : VERSIONS) {
            int w = version == 0 ? 4 : 8;
            for (long at : new long[] {Integer.MIN_VALUE + 1L, -1L, 0L, 1L, 255L, 256L, 65536L, Integer.MAX_VALUE - 1L}) {
                taken("one second above", timed(version, at, at + 1));
                Kit.Tape same = timed(version, at, at);
                refused("the same", same.bytes(), 5, same.place(0) + w);
                Kit.Tape below = timed(version, at, at - 1);
                refused("one second below", below.bytes(), 5, below.place(0) + w);
            }
            Kit.Tape third = timed(version, 1L, 3L, 2L);
            refused("below the one before, though above the first", third.bytes(), 5, third.place(0) + 2 * w);
        }
    }

    private static void typesOfTimes() {
        Kit.sentence(3, "6 a type that is not below TYPE");
        for (int version : VERSIONS) {
            for (int count : new int[] {1, 2, 40}) {
                Kit.Tape tape = timed(version, 1L, 2L, 3L);
                tape.types = new int[count][];
                Arrays.fill(tape.types, new int[] {0, 0, 0});
                for (int i = 0; i < 3; i++) {
                    tape.timeTypes = new int[3];
                    tape.timeTypes[i] = count - 1;
                    taken("the last type", tape);
                    for (int bad : new int[] {count, 128, 255}) {
                        tape.timeTypes[i] = bad;
                        refused("type " + bad + " of " + count, tape.bytes(), 6, tape.place(1) + i);
                    }
                }
            }
        }
    }

    private static void offsets() {
        Kit.sentence(3, "7 an offset that is not -89999 .. 93599 (its first byte)");
        for (int version : VERSIONS) {
            for (int i = 0; i < 3; i++) {
                Kit.Tape tape = three(version);
                tape.rule = "";
                for (int good : new int[] {-89999, 0, 93599}) {
                    tape.types[i][0] = good;
                    taken("offset " + good, tape);
                }
                for (int bad : new int[] {-90000, 93600, Integer.MIN_VALUE, Integer.MAX_VALUE, 1 << 24, -(1 << 24)}) {
                    tape.types[i][0] = bad;
                    refused("offset " + bad, tape.bytes(), 7, tape.place(2) + 6 * i);
                }
            }
        }
    }

    private static void dsts() {
        Kit.sentence(3, "8 a DST byte that is not 0 or 1");
        for (int version : VERSIONS) {
            for (int i = 0; i < 3; i++) {
                Kit.Tape tape = three(version);
                tape.rule = "";
                for (int octet : new int[] {0, 1, 2, 127, 128, 255}) {
                    tape.types[i][1] = octet;
                    if (octet <= 1) {
                        taken("DST " + octet, tape);
                    } else {
                        refused("DST " + octet, tape.bytes(), 8, tape.place(2) + 6 * i + 4);
                    }
                }
            }
        }
    }

    private static void indexes() {
        Kit.sentence(3, "9 an index that is not below CHAR");
        for (int version : VERSIONS) {
            for (int i = 0; i < 3; i++) {
                Kit.Tape tape = three(version);
                int size = tape.chars.length();
                tape.types[i][2] = size - 1;
                refused("the last byte has no NAME, but is one of CHAR", tape.bytes(), 10, tape.place(2) + 6 * i + 5);
                for (int bad : new int[] {size, 128, 255}) {
                    tape.types[i][2] = bad;
                    refused("index " + bad, tape.bytes(), 9, tape.place(2) + 6 * i + 5);
                }
            }
            Kit.Tape full = Kit.full(version);
            full.types[39][2] = 196;
            taken("index 196 of 200: a NAME of three bytes", full);
            full.types[39][2] = 200;
            refused("index 200 of 200", full.bytes(), 9, full.place(2) + 239);
        }
    }

    private static Kit.Tape named(String chars, int index) {
        Kit.Tape tape = new Kit.Tape();
        tape.types = new int[][] {{0, 0, 0}, {0, 0, index}};
        tape.chars = chars;
        return tape;
    }

    private static void names() {
        Kit.sentence(3, "whose NAME has no 0 behind it, or is not 3 .. 10 bytes");
        for (int size = 0; size <= 13; size++) {
            Kit.Tape tape = named("UTC\0" + "x".repeat(size) + "\0", 4);
            if (size >= 3 && size <= 10) {
                taken(size + " bytes", tape);
                Kit.due("size of the NAME", Kit.filed(tape).type(0, 1, 3), size);
                Kit.Tape open = named("UTC\0" + "x".repeat(size), 4);
                refused(size + " bytes, no 0", open.bytes(), 10, open.place(2) + 11);
            } else {
                refused(size + " bytes", tape.bytes(), 10, tape.place(2) + 11);
            }
        }
        Kit.sentence(3, "the bytes of CHAR from its index on up to the first 0");
        taken("the end of another NAME", named("ABCDEF\0", 3));
        Kit.Tape tail = named("ABCDEF\0", 4);
        refused("too short an end of another NAME", tail.bytes(), 10, tail.place(2) + 11);
        taken("whatever comes behind the 0", named("UTC\0\0\u00ff!\n", 0));
        Kit.sentence(3, "10 when CHAR were read: the first record (at its index byte)");
        Kit.Tape two = three(51);
        two.chars = "EST\0ED\0\0+-\0\0";
        refused("the second and the third", two.bytes(), 10, two.place(2) + 11);
        two.types[2][2] = 12;
        refused("an index of a later record comes before", two.bytes(), 9, two.place(2) + 17);
    }

    private static void nameBytes() {
        Kit.sentence(3, "letters, digits, + and -");
        String good = "abcdefghijklmnopqrstuvwxyzABCDEFGHIJKLMNOPQRSTUVWXYZ0123456789+-";
        for (int octet = 1; octet < 256; octet++) {
            for (int place = 0; place < 4; place++) {
                char[] name = {'m', 'n', 'o', 'p'};
                name[place] = (char) octet;
                Kit.Tape tape = named("UTC\0" + new String(name) + "\0", 4);
                if (good.indexOf(octet) >= 0) {
                    taken("byte " + octet, tape);
                } else {
                    refused("byte " + octet, tape.bytes(), 10, tape.place(2) + 11);
                }
            }
        }
    }

    private static Kit.Tape leaping(int version, long... leaps) {
        Kit.Tape tape = new Kit.Tape();
        tape.version = version;
        tape.leaps = new long[leaps.length][];
        for (int i = 0; i < leaps.length; i++) {
            tape.leaps[i] = new long[] {leaps[i], i % 2 == 0 ? 1 : 0};
        }
        return tape;
    }

    private static void leapTimes() {
        Kit.sentence(3, "11 a leap record's time that is below 0, of the first one");
        for (int version : VERSIONS) {
            taken("time 0", leaping(version, 0L));
            taken("time 1", leaping(version, 1L));
            taken("greatest of four bytes", leaping(version, Integer.MAX_VALUE));
            for (long bad : new long[] {-1L, Integer.MIN_VALUE}) {
                Kit.Tape tape = leaping(version, bad);
                refused("time " + bad, tape.bytes(), 11, tape.place(4));
            }
            Kit.sentence(3, "or not at least 2419199 above the one before (its first byte)");
            int w = version == 0 ? 4 : 8;
            for (long at : new long[] {0L, 1L, 78796800L, Integer.MAX_VALUE - 2419199L}) {
                taken("just far enough behind " + at, leaping(version, at, at + 2419199L));
                for (long near : new long[] {2419198L, 1L, 0L, -1L}) {
                    Kit.Tape tape = leaping(version, at, at + near);
                    refused("too near behind " + at, tape.bytes(), 11, tape.place(4) + w + 4);
                }
            }
            Kit.Tape third = leaping(version, 0L, 5000000L, 5000000L + 2419198L);
            refused("the third", third.bytes(), 11, third.place(4) + 2 * (w + 4));
        }
        taken("the greatest time", leaping(51, 0L, Long.MAX_VALUE));
        Kit.Tape least = leaping(51, 0L, Long.MIN_VALUE);
        refused("the least time", least.bytes(), 11, least.place(4) + 12);
        least = leaping(51, Long.MIN_VALUE);
        refused("the least time of all", least.bytes(), 11, least.place(4));
    }

    private static void correction(int version, boolean good, long... corrections) {
        Kit.Tape tape = new Kit.Tape();
        tape.version = version;
        tape.leaps = new long[corrections.length][];
        for (int i = 0; i < corrections.length; i++) {
            tape.leaps[i] = new long[] {2419199L * i, corrections[i]};
        }
        int w = version == 0 ? 4 : 8;
        if (good) {
            taken("corrections " + Arrays.toString(corrections), tape);
        } else {
            refused("corrections " + Arrays.toString(corrections), tape.bytes(), 12, tape.place(4) + corrections.length * (w + 4) - 4);
        }
    }

    private static void corrections() {
        for (int version : VERSIONS) {
            Kit.sentence(3, "12 a correction that is not 1 or -1, of the first one");
            correction(version, true, 1);
            correction(version, true, -1);
            for (int bad : new int[] {0, 2, -2, 256, 65537, Integer.MIN_VALUE, Integer.MAX_VALUE}) {
                correction(version, false, bad);
            }
            Kit.sentence(3, "or not 1 more or less than the one before (its first byte)");
            correction(version, true, 1, 2);
            correction(version, true, 1, 0);
            correction(version, true, 1, 0, -1);
            correction(version, true, -1, -2, -1, 0, 1);
            for (int bad : new int[] {-1, 1, 3, -2, 258, Integer.MIN_VALUE, Integer.MAX_VALUE}) {
                correction(version, false, 1, bad);
            }
            for (int bad : new int[] {1, -1, -3, 2}) {
                correction(version, false, -1, bad);
            }
            correction(version, false, 1, 2, 3, 1);
        }
    }

    private static void marked(boolean good, int place, int[] stds, int[] uts) {
        for (int version : VERSIONS) {
            Kit.Tape tape = three(version);
            tape.stds = stds;
            tape.uts = uts;
            String what = "STD " + Arrays.toString(stds) + ", UT " + Arrays.toString(uts);
            if (good) {
                taken(what, tape);
            } else {
                refused(what, tape.bytes(), 13, tape.place(5) + place);
            }
        }
    }

    private static void marks() {
        Kit.sentence(3, "13 a byte of STD or UT that is not 0 or 1");
        int[] none = {};
        marked(true, 0, none, none);
        marked(true, 0, new int[] {0, 0, 0}, none);
        marked(true, 0, new int[] {1, 1, 1}, none);
        marked(true, 0, new int[] {1, 1, 1}, new int[] {1, 1, 1});
        for (int bad : new int[] {2, 127, 128, 255}) {
            marked(false, 0, new int[] {bad, 0, 0}, none);
            marked(false, 2, new int[] {1, 0, bad}, new int[] {0, 0, 0});
            marked(false, 3, new int[] {1, 1, 1}, new int[] {bad, 0, 0});
            marked(false, 5, new int[] {1, 1, 1}, new int[] {1, 0, bad});
            marked(false, 2, none, new int[] {0, 0, bad});
        }
        Kit.sentence(3, "or one of UT that is 1 where that of STD is not (or there is none)");
        marked(true, 0, new int[] {0, 1, 0}, new int[] {0, 1, 0});
        marked(false, 3, new int[] {0, 1, 1}, new int[] {1, 1, 1});
        marked(false, 5, new int[] {1, 1, 0}, new int[] {1, 1, 1});
        marked(true, 0, none, new int[] {0, 0, 0});
        marked(false, 0, none, new int[] {1, 0, 0});
        marked(false, 2, none, new int[] {0, 0, 1});
    }

    private static void bytesBehind() {
        Kit.sentence(3, "16 bytes behind all that (the first one)");
        for (int version : VERSIONS) {
            for (String behind : new String[] {"\n", "\0", "x", "xy", "TZif"}) {
                Kit.Tape tape = three(version);
                int size = tape.bytes().length;
                tape.behind = behind;
                refused("bytes behind " + version, tape.bytes(), 16, size);
            }
        }
        Kit.sentence(3, "VERSION 0: a HEADER, a BLOCK of width 4.");
        Kit.Tape old = three(0);
        old.behind = "\nEST5\n";
        refused("a FOOTER behind VERSION 0", old.bytes(), 16, old.place(7));
    }

    private static void lastTime(boolean good, long time, int[] type, String chars) {
        Kit.Tape tape = timed(50, -9L, time);
        tape.timeTypes = new int[] {0, 1};
        tape.types = new int[][] {{7, 1, 0}, type};
        tape.chars = chars;
        tape.rule = "EST5EDT,M3.2.0,M11.1.0";
        if (good) {
            taken("last time " + time, tape);
        } else {
            refused("last time " + time, tape.bytes(), 17, tape.place(7) + 1);
        }
    }

    private static void lastTimes() {
        Kit.sentence(3, "17 there are times, and a RULE, and the RULE does not tell, for the last of these times");
        String chars = "EST\0EDT\0XEDT\0";
        int[] est = {-18000, 0, 0};
        int[] edt = {-14400, 1, 4};
        // The SUMMER of 2024 is 1710054000 .. 1730613599.
        lastTime(true, 1710053999L, est, chars);
        lastTime(false, 1710053999L, edt, chars);
        lastTime(true, 1710054000L, edt, chars);
        lastTime(false, 1710054000L, est, chars);
        lastTime(true, 1730613599L, edt, chars);
        lastTime(false, 1730613599L, est, chars);
        lastTime(true, 1730613600L, est, chars);
        lastTime(false, 1730613600L, edt, chars);
        Kit.sentence(3, "the offset, DST and NAME that the type of that time has (the RULE TEXT's first byte)");
        lastTime(true, 1710054000L, new int[] {-14400, 1, 9}, chars);
        lastTime(false, 1710054000L, new int[] {-14399, 1, 4}, chars);
        lastTime(false, 1710054000L, new int[] {-14401, 1, 4}, chars);
        lastTime(false, 1710054000L, new int[] {-14400, 0, 4}, chars);
        lastTime(false, 1710054000L, new int[] {-14400, 1, 0}, chars);
        lastTime(false, 1710054000L, new int[] {-14400, 1, 8}, chars);
        lastTime(false, 1710054000L, edt, "EST\0EDTX\0");
        lastTime(false, 1710054000L, edt, "EST\0EDt\0");
        lastTime(false, 1710054000L, edt, "EST\0XDT\0");
        Kit.sentence(3, "17 there are times, and a RULE");
        Kit.Tape none = new Kit.Tape();
        none.rule = "XYZ9";
        taken("no times", none);
        Kit.Tape noRule = timed(50, 5L);
        taken("no RULE", noRule);
        noRule.version = 0;
        taken("no RULE in VERSION 0", noRule);
        noRule.version = 51;
        noRule.rule = "XYZ9";
        refused("one time and a RULE", noRule.bytes(), 17, noRule.place(7) + 1);
    }

    /** Wrong bytes, in the order in which they are told; each pair of them has the first one told. */
    private static void firstOneIsTold() {
        Kit.sentence(3, "FAULTS, byte after byte, the first one is told");
        Kit.Tape tape = three(50);
        tape.behind = " ";
        byte[] good = tape.bytes();
        int own = ownHeader(tape);
        int records = tape.place(2);
        int leaps = tape.place(4);
        int footer = tape.place(7);
        // The place of a byte, the byte, the FAULT and its PLACE.
        List<int[]> wrong = new ArrayList<>();
        wrong.add(new int[] {0, 'X', 2, 0});
        wrong.add(new int[] {4, 1, 3, 4});
        wrong.add(new int[] {28, 1, 4, 28});
        wrong.add(new int[] {own + 3, 'F', 2, own + 3});
        wrong.add(new int[] {own + 4, 51, 3, own + 4});
        wrong.add(new int[] {own + 34, 9, 4, own + 32});
        wrong.add(new int[] {tape.place(0) + 8, 127, 5, tape.place(0) + 8});
        wrong.add(new int[] {tape.place(1), 3, 6, tape.place(1)});
        wrong.add(new int[] {records + 6, 1, 7, records + 6});
        wrong.add(new int[] {records + 10, 2, 8, records + 10});
        wrong.add(new int[] {records + 11, 12, 9, records + 11});
        wrong.add(new int[] {tape.place(3) + 1, '_', 10, records + 5});
        wrong.add(new int[] {leaps, 128, 11, leaps});
        wrong.add(new int[] {leaps + 11, 0, 12, leaps + 8});
        wrong.add(new int[] {tape.place(5) + 2, 2, 13, tape.place(5) + 2});
        wrong.add(new int[] {tape.place(6) + 1, 1, 13, tape.place(6) + 1});
        wrong.add(new int[] {footer, '9', 14, footer});
        wrong.add(new int[] {footer + 8, '!', 15, footer + 8});
        for (int i = 0; i < wrong.size(); i++) {
            int[] first = wrong.get(i);
            byte[] one = Kit.with(good, first[0], first[1]);
            refused("alone, but for bytes behind", one, first[2], first[3]);
            // EST6 is another RULE than the last time's type is for.
            refused("with another RULE", Kit.with(one, footer + 4, '6'), first[2], first[3]);
            for (int k = i + 1; k < wrong.size(); k++) {
                int[] second = wrong.get(k);
                refused(first[2] + " and " + second[2], Kit.with(one, second[0], second[1]), first[2], first[3]);
            }
        }
        refused("bytes behind alone", good, 16, good.length - 1);
        refused("bytes behind, and another RULE", Kit.with(good, footer + 4, '6'), 16, good.length - 1);
        refused("another RULE alone", Kit.with(Kit.cut(good, good.length - 1), footer + 4, '6'), 17, footer + 1);
    }

    private static void placeOfTheLast() {
        Kit.sentence(6, "The PLACE of the last FAULT of read(), rule() or table()");
        ZoneFiles z = new ZoneFiles();
        Kit.due("a FAULT of rule", Kit.rule(z, 0, "ABC!", false), 15);
        Kit.due("place", z.place(), 3);
        Kit.due("a FAULT of table", Kit.table(z, "0 0 !\n"), 1);
        Kit.due("place", z.place(), 4);
        Kit.due("a FAULT of read", Kit.read(z, 0, Kit.bytes("TZix")), 2);
        Kit.due("place", z.place(), 3);
        Kit.due("a good file", Kit.read(z, 0, three(50).bytes()), 0);
        Kit.due("a good text", Kit.rule(z, 1, "ABC0", false), 0);
        Kit.due("a good table", Kit.table(z, "0 0\n#@1\n"), 0);
        Kit.due("the place stays", z.place(), 3);
        Kit.due("an empty text", z.rule(0, false), 1);
        Kit.due("place", z.place(), 0);
    }

    private static void zonesPlace() {
        Kit.sentence(3, "ZONES have the numbers 0 .. 3; one that was read takes the place of the one that was there");
        for (int zone = 0; zone < 4; zone++) {
            ZoneFiles z = new ZoneFiles();
            Kit.due("read", Kit.read(z, zone, three(50).bytes()), 0);
            for (int other = 0; other < 4; other++) {
                Kit.due("times of zone " + other, z.zone(other, 1), other == zone ? 3 : 0);
            }
            Kit.due("a lesser one in its place", Kit.read(z, zone, new Kit.Tape().bytes()), 0);
            int[] counts = {50, 0, 1, 4, 0, 0, 0, 0};
            for (int what = 0; what < 8; what++) {
                Kit.due("zone(" + zone + ", " + what + ")", z.zone(zone, what), counts[what]);
            }
        }
        Kit.sentence(3, "there is no such ZONE");
        ZoneFiles z = new ZoneFiles();
        Kit.feed(z, three(50).bytes());
        for (int bad : new int[] {Integer.MIN_VALUE, -1, 4, Integer.MAX_VALUE}) {
            Kit.dueThrow("read(" + bad + ")", Kit.INDEX, () -> z.read(bad));
        }
        Kit.due("the tape is still there", z.read(3), 0);
    }
}
