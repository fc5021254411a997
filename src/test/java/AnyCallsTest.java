import java.util.Arrays;
import java.util.Random;
import java.util.function.ToLongFunction;

/**
 * Calls by chance, with wrong arguments among them: each answers, or throws just what its face names, by a throw of its
 * own (never a class below that, as the machine would). A twin gets the calls that answer alone: it answers the same, as
 * a call that throws changes nothing.
 */
public final class AnyCallsTest {
    private static final Random RANDOM = new Random(512L);
    private static final String[] TEXTS = {
        "EST5EDT,M3.2.0,M11.1.0", "<+03>-3", "AAA0BBB0,M2.4.0,M2.5.0", "EST5EDT,0/0,J365/25", "WGT3WGST,M3.5.0/-2,M10.5.0/-1",
        "AAA24:59:59BBB-24:59:59,0/-167:59:59,365/167:59:59", "#@3896899200\n2272060800\t10\t# x\n2287785600 11\n2303683200 10\n",
        "EST5EDT,M13", "TZif", "TZif2\0\0", "#@", "\n\n",
    };
    private static final long[] LONGS = {
        0L, 1L, -1L, 1720000000L, -5000000000L, 63072000L, 78796810L, 78796799L, Kit.LEAST, Kit.LEAST - 1, Kit.GREATEST, Kit.GREATEST + 1,
        Long.MIN_VALUE, Long.MAX_VALUE, 30000000000L, 2024L, Kit.LEAST + 100000L, Kit.GREATEST - 100000L,
    };
    private static final int[] INTS = {0, 1, 2, 3, 0, 1, 2, 3, 4, 5, 7, 8, 50, 51, 12, 31, 1970, 1990, 2069, 2400, -1, Integer.MIN_VALUE, Integer.MAX_VALUE};

    public static void main(String[] args) {
        for (int i = 0; i < 600; i++) {
            ZoneFiles z = new ZoneFiles();
            ZoneFiles twin = new ZoneFiles();
            for (int call = 0; call < 300; call++) {
                anyCall(z, twin, RANDOM.nextInt(32));
            }
        }
        brokenFiles();
        Kit.end();
    }

    private static long anyLong() {
        return LONGS[RANDOM.nextInt(LONGS.length)];
    }

    private static int anyInt() {
        return INTS[RANDOM.nextInt(INTS.length)];
    }

    private static void anyCall(ZoneFiles z, ZoneFiles twin, int which) {
        int a = anyInt();
        int b = anyInt();
        int c = anyInt();
        long s = anyLong();
        switch (which) {
            case 0: check(z, twin, "feed", x -> x.feed(a, s), Kit.ARGUMENT); break;
            case 1: check(z, twin, "read", x -> x.read(a), Kit.INDEX); break;
            case 2: check(z, twin, "rule", x -> x.rule(a, b > 2), Kit.INDEX); break;
            case 3: check(z, twin, "table", x -> x.table()); break;
            case 4: check(z, twin, "place", x -> x.place()); break;
            case 5: check(z, twin, "zone", x -> x.zone(a, b), Kit.INDEX); break;
            case 6: check(z, twin, "time", x -> x.time(a, b), Kit.INDEX); break;
            case 7: check(z, twin, "typeAt", x -> x.typeAt(a, b), Kit.INDEX); break;
            case 8: check(z, twin, "type", x -> x.type(a, b, c), Kit.INDEX); break;
            case 9: check(z, twin, "letter", x -> x.letter(a, b, c), Kit.INDEX); break;
            case 10: check(z, twin, "leap", x -> x.leap(a, b, c), Kit.INDEX); break;
            case 11: check(z, twin, "at", x -> x.at(a, s, b), Kit.INDEX, Kit.ARGUMENT); break;
            case 12: check(z, twin, "name", x -> x.name(a, s, b), Kit.INDEX, Kit.ARGUMENT, Kit.STATE); break;
            case 13: check(z, twin, "clock", x -> x.clock(s, a), Kit.INDEX, Kit.ARGUMENT); break;
            case 14: check(z, twin, "seconds", x -> x.seconds(s, a, b, c), Kit.ARGUMENT); break;
            case 15: check(z, twin, "find", x -> x.find(a, s), Kit.INDEX, Kit.ARGUMENT); break;
            case 16: check(z, twin, "found", x -> x.found(a), Kit.INDEX); break;
            case 17: check(z, twin, "next", x -> x.next(a, s), Kit.INDEX, Kit.ARGUMENT); break;
            case 18: check(z, twin, "last", x -> x.last(a, s), Kit.INDEX, Kit.ARGUMENT); break;
            case 19: check(z, twin, "stretch", x -> x.stretch(a, b), Kit.INDEX, Kit.ARGUMENT, Kit.STATE); break;
            case 20: check(z, twin, "write", x -> x.write(a, b), Kit.INDEX, Kit.ARGUMENT, Kit.STATE); break;
            case 21: check(z, twin, "out", x -> x.out(a), Kit.INDEX); break;
            case 22: check(z, twin, "again", x -> x.again()); break;
            case 23: check(z, twin, "told", x -> x.told(a), Kit.INDEX, Kit.STATE); break;
            case 24: check(z, twin, "row", x -> x.row(a, b), Kit.INDEX); break;
            case 25: check(z, twin, "atomic", x -> x.atomic(s)); break;
            case 26: check(z, twin, "instant", x -> x.instant(s)); break;
            case 27: check(z, twin, "isLeap", x -> x.isLeap(s) ? 1 : 0); break;
            case 28: feed(z, twin, Kit.bytes(TEXTS[RANDOM.nextInt(TEXTS.length)])); break;
            default: goodTape(z, twin, which - 29, RANDOM.nextInt(4)); break;
        }
    }

    private static void feed(ZoneFiles z, ZoneFiles twin, byte[] bytes) {
        Kit.feed(z, bytes);
        Kit.feed(twin, bytes);
    }

    private static void goodTape(ZoneFiles z, ZoneFiles twin, int which, int zone) {
        z.table();
        twin.table();
        feed(z, twin, which == 0 ? Kit.bytes(TEXTS[RANDOM.nextInt(6)]) : which == 1 ? file().bytes() : Kit.bytes(TEXTS[6]));
        for (ZoneFiles x : new ZoneFiles[] {z, twin}) {
            Kit.due("a good tape", which == 0 ? x.rule(zone, true) : which == 1 ? x.read(zone) : x.table(), 0);
        }
    }

    private static Kit.Tape file() {
        Kit.Tape tape = new Kit.Tape();
        tape.version = new int[] {0, 50, 51}[RANDOM.nextInt(3)];
        tape.times = new long[] {-1000L, 0L, 5000L};
        tape.timeTypes = new int[] {1, 0, 0};
        tape.types = new int[][] {{-18000, 0, 0}, {-14400, 1, 4}};
        tape.chars = "EST\0EDT\0";
        tape.leaps = new long[][] {{78796800L, 1}};
        tape.stds = new int[] {1, 0};
        tape.uts = RANDOM.nextBoolean() ? new int[0] : new int[] {1, 0};
        tape.rule = RANDOM.nextBoolean() ? "" : "EST5EDT,M3.2.0,M11.1.0";
        return tape;
    }

    private static void check(ZoneFiles z, ZoneFiles twin, String call, ToLongFunction<ZoneFiles> c, Class<?>... named) {
        long answer;
        try {
            answer = c.applyAsLong(z);
        } catch (RuntimeException e) {
            Kit.due(call + " threw " + e, Arrays.asList(named).contains(e.getClass()), true);
            return;
        }
        Kit.due(call + " of a twin", c.applyAsLong(twin), answer);
    }

    /** Files with some bytes changed, cut, or put in: read answers 0 .. 17, and of what was read all can be asked. */
    private static void brokenFiles() {
        int[] seen = new int[18];
        for (int i = 0; i < 60000; i++) {
            byte[] bytes = file().bytes();
            int changes = 1 + RANDOM.nextInt(2);
            for (int k = 0; k < changes; k++) {
                int place = RANDOM.nextInt(bytes.length);
                bytes[place] = (byte) (RANDOM.nextBoolean() ? RANDOM.nextInt(256) : bytes[place] + RANDOM.nextInt(3) - 1);
            }
            ZoneFiles z = new ZoneFiles();
            int fault = Kit.read(z, 1, RANDOM.nextInt(9) == 0 ? Arrays.copyOf(bytes, RANDOM.nextInt(bytes.length + 9)) : bytes);
            Kit.due("a fault's number", fault >= 0 && fault <= 17, true);
            seen[Math.max(0, Math.min(17, fault))]++;
            if (fault == 0) {
                z.at(1, 6000L, 0);
                z.next(1, -2000L);
                z.last(1, 2000000000L);
                z.find(1, 5L);
                byte[] written = Kit.written(z, 1, 51);
                z.again();
                Kit.due("read again", z.read(2), 0);
                Kit.due("the same", Arrays.equals(written, Kit.written(z, 2, 51)), true);
            }
        }
        for (int fault = 0; fault < seen.length; fault++) {
            Kit.due("fault " + fault + " came to pass", seen[fault] > 0, true);
        }
    }
}
