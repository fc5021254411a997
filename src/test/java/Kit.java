import java.io.ByteArrayOutputStream;
import java.nio.charset.StandardCharsets;
import java.util.Arrays;

/** What the tests share: answers that are due, and tapes. */
final class Kit {
    static final Class<?> INDEX = IndexOutOfBoundsException.class;
    static final Class<?> ARGUMENT = IllegalArgumentException.class;
    static final Class<?> STATE = IllegalStateException.class;
    static final long LEAST = -(1L << 60) + 1;
    static final long GREATEST = (1L << 60) - 1;

    private static int wrong = 0;
    private static int asked = 0;
    private static String sentence = "";

    interface Call {
        long answer();
    }

    private Kit() {
    }

    /** What is asked from now on tests these words of the document, as that promise needs them. */
    static void sentence(int promise, String words) {
        sentence = "promise " + promise + ", '" + words + "': ";
    }

    static void due(String call, long got, long want) {
        asked++;
        if (got != want) {
            wrong++;
            System.out.println(sentence + call + " answered " + got + ", due is " + want);
        }
    }

    static void due(String call, String got, String want) {
        asked++;
        if (!got.equals(want)) {
            wrong++;
            System.out.println(sentence + call + " answered " + got + ", due is " + want);
        }
    }

    static void due(String call, boolean got, boolean want) {
        due(call, got ? 1 : 0, want ? 1 : 0);
    }

    static void dueThrow(String call, Class<?> want, Call c) {
        asked++;
        String got;
        try {
            got = "answered " + c.answer();
        } catch (RuntimeException e) {
            if (e.getClass() == want) {
                return;
            }
            got = "threw " + e;
        }
        wrong++;
        System.out.println(sentence + call + " " + got + ", due is " + want.getSimpleName());
    }

    static void end() {
        System.out.println(wrong == 0 ? asked + " answers, all as due" : wrong + " of " + asked + " answers are not as due");
        if (wrong != 0) {
            System.exit(1);
        }
    }

    static byte[] bytes(String text) {
        return text.getBytes(StandardCharsets.ISO_8859_1);
    }

    /** A tape with other octets from a place on. */
    static byte[] with(byte[] tape, int place, int... octets) {
        byte[] copy = tape.clone();
        for (int i = 0; i < octets.length; i++) {
            copy[place + i] = (byte) octets[i];
        }
        return copy;
    }

    static byte[] cut(byte[] tape, int size) {
        return Arrays.copyOf(tape, size);
    }

    static void feed(ZoneFiles z, byte[] tape) {
        for (int from = 0; from < tape.length; from += 8) {
            int n = Math.min(8, tape.length - from);
            long octets = 0;
            for (int i = n - 1; i >= 0; i--) {
                octets = octets << 8 | tape[from + i] & 255;
            }
            z.feed(n, octets);
        }
    }

    static int read(ZoneFiles z, int zone, byte[] tape) {
        feed(z, tape);
        return z.read(zone);
    }

    static int rule(ZoneFiles z, int zone, String text, boolean wide) {
        feed(z, bytes(text));
        return z.rule(zone, wide);
    }

    static int table(ZoneFiles z, String text) {
        feed(z, bytes(text));
        return z.table();
    }

    static ZoneFiles ruled(String text, boolean wide) {
        ZoneFiles z = new ZoneFiles();
        due("rule " + text, rule(z, 0, text, wide), 0);
        return z;
    }

    static ZoneFiles filed(Tape tape) {
        ZoneFiles z = new ZoneFiles();
        due("read", read(z, 0, tape.bytes()), 0);
        return z;
    }

    static byte[] written(ZoneFiles z, int zone, int version) {
        byte[] all = new byte[z.write(zone, version)];
        for (int i = 0; i < all.length; i++) {
            all[i] = (byte) z.out(i);
        }
        return all;
    }

    static String nameAt(ZoneFiles z, int zone, long t) {
        StringBuilder name = new StringBuilder();
        int size = z.at(zone, t, 2);
        for (int i = 0; i < size; i++) {
            name.append((char) z.name(zone, t, i));
        }
        return name.toString();
    }

    static String letters(ZoneFiles z, int zone, int which) {
        StringBuilder all = new StringBuilder();
        int size = z.zone(zone, which == 0 ? 3 : 7);
        for (int i = 0; i < size; i++) {
            all.append((char) z.letter(zone, which, i));
        }
        return all.toString();
    }

    /** A FILE with as much in each row as there may be; it has no RULE. */
    static Tape full(int version) {
        Tape tape = new Tape();
        tape.version = version;
        tape.times = new long[200];
        tape.timeTypes = new int[200];
        for (int i = 0; i < 200; i++) {
            tape.times[i] = 1000L * i - 7L;
            tape.timeTypes[i] = i % 40;
        }
        tape.types = new int[40][];
        tape.leaps = new long[40][];
        tape.stds = new int[40];
        tape.uts = new int[40];
        for (int i = 0; i < 40; i++) {
            tape.types[i] = new int[] {60 * i, i & 1, 5 * i};
            tape.leaps[i] = new long[] {2419199L * i, i + 1};
            tape.stds[i] = 1;
            tape.uts[i] = i & 1;
        }
        tape.chars = "abcd\0".repeat(40);
        return tape;
    }

    /** A FILE in the making. */
    static final class Tape {
        int version = 50;
        long[] times = {};
        int[] timeTypes = {};
        int[][] types = {{0, 0, 0}};
        String chars = "UTC\0";
        long[][] leaps = {};
        int[] stds = {};
        int[] uts = {};
        String rule = "";
        /** The COUNTS of the first HEADER of two, and so the size of the BLOCK that is not looked at. */
        int[] firstCounts = {0, 0, 0, 0, 1, 1};
        String behind = "";

        byte[] bytes() {
            ByteArrayOutputStream out = new ByteArrayOutputStream();
            if (version != 0) {
                header(out, firstCounts);
                int[] c = firstCounts;
                for (int i = 0; i < 5 * c[3] + 6 * c[4] + c[5] + 8 * c[2] + c[1] + c[0]; i++) {
                    out.write(200 + i % 50);
                }
            }
            header(out, new int[] {uts.length, stds.length, leaps.length, times.length, types.length, chars.length()});
            block(out, version == 0 ? 4 : 8);
            if (version != 0) {
                out.write(10);
                text(out, rule);
                out.write(10);
            }
            text(out, behind);
            return out.toByteArray();
        }

        /** Where row 0 .. 6 of the BLOCK that is looked at begins; 7 is the FOOTER. */
        int place(int row) {
            int w = version == 0 ? 4 : 8;
            int[] sizes = {w * times.length, times.length, 6 * types.length, chars.length(), (w + 4) * leaps.length, stds.length, uts.length};
            int place = 44;
            if (version != 0) {
                int[] c = firstCounts;
                place += 5 * c[3] + 6 * c[4] + c[5] + 8 * c[2] + c[1] + c[0] + 44;
            }
            for (int i = 0; i < row; i++) {
                place += sizes[i];
            }
            return place;
        }

        private void header(ByteArrayOutputStream out, int[] counts) {
            text(out, "TZif");
            out.write(version);
            for (int i = 0; i < 15; i++) {
                out.write(7 * i + 1);
            }
            for (int count : counts) {
                number(out, count, 4);
            }
        }

        private void block(ByteArrayOutputStream out, int w) {
            for (long time : times) {
                number(out, time, w);
            }
            for (int type : timeTypes) {
                out.write(type);
            }
            for (int[] type : types) {
                number(out, type[0], 4);
                out.write(type[1]);
                out.write(type[2]);
            }
            text(out, chars);
            for (long[] leap : leaps) {
                number(out, leap[0], w);
                number(out, leap[1], 4);
            }
            for (int std : stds) {
                out.write(std);
            }
            for (int ut : uts) {
                out.write(ut);
            }
        }

        private static void text(ByteArrayOutputStream out, String text) {
            for (byte b : Kit.bytes(text)) {
                out.write(b);
            }
        }

        private static void number(ByteArrayOutputStream out, long number, int w) {
            for (int i = w - 1; i >= 0; i--) {
                out.write((int) (number >>> 8 * i));
            }
        }
    }
}
