import java.util.ArrayList;
import java.util.List;
import java.util.function.Function;
import java.util.function.ToLongFunction;

/**
 * All promises: "A call that throws changes nothing; a FAULT leaves ZONE or TABLE as it was (the tape is used up)." An
 * object with something everywhere is made again and again; one call is made; then all that can be asked is asked.
 */
public final class NothingChangesTest {
    private static final String TABLE = "2272060800 10\n2287785600 11\n#@2303683200\n";
    private static final String TAPE = "<+07>-7";
    private static final int[] NO_ZONES = {Integer.MIN_VALUE, -1, 4, Integer.MAX_VALUE};
    private static final long[] NO_INSTANTS = {Long.MIN_VALUE, Kit.LEAST - 1, Kit.GREATEST + 1, Long.MAX_VALUE};

    /** What can be asked, in parts that keep to an object's 512 calls; the tape is asked by using it up. */
    private static final String[] PARTS = {"ZONE 0", "ZONE 1", "ZONE 2", "ZONE 3", "what was WRITTEN", "what was FOUND", "the TABLE", "the PLACE", "the tape"};

    private record Thrown(int promise, String call, Class<?> want, ToLongFunction<ZoneFiles> made) {
    }

    public static void main(String[] args) {
        throwingCalls();
        fullTape();
        faultsOfRead();
        faultsOfRule();
        faultsOfTable();
        noStretch();
        questions();
        changesOfOneThing();
        Kit.end();
    }

    private static Kit.Tape file() {
        Kit.Tape tape = new Kit.Tape();
        tape.version = 51;
        tape.times = new long[] {-100L, 0L, 100L};
        tape.timeTypes = new int[] {1, 2, 0};
        tape.types = new int[][] {{-18000, 0, 0}, {-14400, 1, 4}, {60, 0, 8}};
        tape.chars = "EST\0EDT\0+-9\0";
        tape.leaps = new long[][] {{0L, 1}, {3000000L, 2}};
        tape.stds = new int[] {1, 0, 1};
        tape.uts = new int[] {1, 0, 0};
        tape.rule = "EST5EDT,M3.2.0/-1,M11.1.0";
        return tape;
    }

    private static Kit.Tape oldFile() {
        Kit.Tape tape = new Kit.Tape();
        tape.version = 0;
        tape.times = new long[] {5L};
        tape.timeTypes = new int[] {0};
        tape.stds = new int[] {1};
        return tape;
    }

    private static ZoneFiles made(String tape) {
        ZoneFiles z = new ZoneFiles();
        Kit.read(z, 0, file().bytes());
        Kit.rule(z, 1, "ABC0DEF-1,J100/0,J200/1", false);
        Kit.read(z, 3, oldFile().bytes());
        Kit.table(z, TABLE);
        z.find(1, 199L * 86400L);
        z.write(3, 0);
        Kit.rule(z, 2, "ABC5!", false);
        Kit.feed(z, Kit.bytes(tape));
        return z;
    }

    private static String part(ZoneFiles z, int part) {
        switch (part) {
            case 4: return Shown.written(z);
            case 5: return Shown.found(z);
            case 6: return Shown.table(z);
            case 7: return "" + z.place();
            case 8: return Shown.tape(z);
            default: return Shown.zone(z, part);
        }
    }

    /** All parts, but for those that may change, answer as those of an object without that call. */
    private static void staysBut(String what, String tape, Function<ZoneFiles, String> call, String due, int... changed) {
        for (int part = 0; part < PARTS.length; part++) {
            boolean may = false;
            for (int c : changed) {
                may = may || c == part;
            }
            ZoneFiles z = made(tape);
            Kit.due(what, call.apply(z), due);
            if (!may) {
                Kit.due(PARTS[part] + " behind " + what, part(z, part), part(made(tape), part));
            }
        }
    }

    private static void throwingCalls() {
        List<Thrown> all = new ArrayList<>();
        addReaders(all);
        addZoneQuestions(all);
        addInstantQuestions(all);
        addChanges(all);
        for (Thrown t : all) {
            Kit.sentence(t.promise, "A call that throws changes nothing");
            staysBut(t.call, TAPE, z -> {
                try {
                    return "answered " + t.made.applyAsLong(z);
                } catch (RuntimeException e) {
                    return e.getClass().getSimpleName();
                }
            }, t.want.getSimpleName());
        }
        for (int promise = 2; promise <= 26; promise++) {
            boolean throwsNothing = promise == 5 || promise == 6 || promise == 24;
            int own = promise;
            Kit.due("promise " + promise + " has a call that throws", all.stream().anyMatch(t -> t.promise == own), !throwsNothing);
        }
    }

    private static void addReaders(List<Thrown> all) {
        for (int n : new int[] {Integer.MIN_VALUE, -1, 0, 9, Integer.MAX_VALUE}) {
            all.add(new Thrown(2, "feed(" + n + ", -1)", Kit.ARGUMENT, z -> z.feed(n, -1L)));
        }
        for (int zone : NO_ZONES) {
            all.add(new Thrown(3, "read(" + zone + ")", Kit.INDEX, z -> z.read(zone)));
            all.add(new Thrown(4, "rule(" + zone + ", true)", Kit.INDEX, z -> z.rule(zone, true)));
            all.add(new Thrown(4, "rule(" + zone + ", false)", Kit.INDEX, z -> z.rule(zone, false)));
        }
    }

    private static void addZoneQuestions(List<Thrown> all) {
        for (int zone : NO_ZONES) {
            all.add(new Thrown(7, "zone(" + zone + ", 0)", Kit.INDEX, z -> z.zone(zone, 0)));
            all.add(new Thrown(8, "time(" + zone + ", 0)", Kit.INDEX, z -> z.time(zone, 0)));
            all.add(new Thrown(9, "typeAt(" + zone + ", 0)", Kit.INDEX, z -> z.typeAt(zone, 0)));
            all.add(new Thrown(10, "type(" + zone + ", 0, 0)", Kit.INDEX, z -> z.type(zone, 0, 0)));
            all.add(new Thrown(11, "letter(" + zone + ", 0, 0)", Kit.INDEX, z -> z.letter(zone, 0, 0)));
            all.add(new Thrown(12, "leap(" + zone + ", 0, 0)", Kit.INDEX, z -> z.leap(zone, 0, 0)));
        }
        for (int bad : new int[] {-1, 200}) {
            all.add(new Thrown(7, "zone(0, " + bad + ")", Kit.INDEX, z -> z.zone(0, bad)));
            all.add(new Thrown(8, "time(0, " + bad + ")", Kit.INDEX, z -> z.time(0, bad)));
            all.add(new Thrown(9, "typeAt(0, " + bad + ")", Kit.INDEX, z -> z.typeAt(0, bad)));
            all.add(new Thrown(10, "type(0, " + bad + ", 0)", Kit.INDEX, z -> z.type(0, bad, 0)));
            all.add(new Thrown(10, "type(0, 0, " + bad + ")", Kit.INDEX, z -> z.type(0, 0, bad)));
            all.add(new Thrown(11, "letter(0, " + bad + ", 0)", Kit.INDEX, z -> z.letter(0, bad, 0)));
            all.add(new Thrown(11, "letter(0, 1, " + bad + ")", Kit.INDEX, z -> z.letter(0, 1, bad)));
            all.add(new Thrown(12, "leap(0, " + bad + ", 0)", Kit.INDEX, z -> z.leap(0, bad, 0)));
            all.add(new Thrown(12, "leap(0, 0, " + bad + ")", Kit.INDEX, z -> z.leap(0, 0, bad)));
            all.add(new Thrown(18, "found(" + bad + ")", Kit.INDEX, z -> z.found(bad)));
            all.add(new Thrown(23, "out(" + bad + ")", Kit.INDEX, z -> z.out(bad)));
            all.add(new Thrown(25, "told(" + bad + ")", Kit.INDEX, z -> z.told(bad)));
            all.add(new Thrown(26, "row(" + bad + ", 0)", Kit.INDEX, z -> z.row(bad, 0)));
            all.add(new Thrown(26, "row(0, " + bad + ")", Kit.INDEX, z -> z.row(0, bad)));
        }
    }

    private static void addInstantQuestions(List<Thrown> all) {
        for (int zone : NO_ZONES) {
            all.add(new Thrown(13, "at(" + zone + ", 0, 0)", Kit.INDEX, z -> z.at(zone, 0L, 0)));
            all.add(new Thrown(14, "name(" + zone + ", 0, 0)", Kit.INDEX, z -> z.name(zone, 0L, 0)));
            all.add(new Thrown(17, "find(" + zone + ", 0)", Kit.INDEX, z -> z.find(zone, 0L)));
            all.add(new Thrown(19, "next(" + zone + ", 0)", Kit.INDEX, z -> z.next(zone, 0L)));
            all.add(new Thrown(20, "last(" + zone + ", 0)", Kit.INDEX, z -> z.last(zone, 0L)));
        }
        for (long bad : NO_INSTANTS) {
            all.add(new Thrown(13, "at(0, " + bad + ", 0)", Kit.ARGUMENT, z -> z.at(0, bad, 0)));
            all.add(new Thrown(14, "name(0, " + bad + ", 0)", Kit.ARGUMENT, z -> z.name(0, bad, 0)));
            all.add(new Thrown(15, "clock(" + bad + ", 0)", Kit.ARGUMENT, z -> z.clock(bad, 0)));
            all.add(new Thrown(16, "seconds(" + bad + ", 1, 1, 0)", Kit.ARGUMENT, z -> z.seconds(bad, 1, 1, 0)));
            all.add(new Thrown(17, "find(0, " + bad + ")", Kit.ARGUMENT, z -> z.find(0, bad)));
            all.add(new Thrown(19, "next(0, " + bad + ")", Kit.ARGUMENT, z -> z.next(0, bad)));
            all.add(new Thrown(20, "last(0, " + bad + ")", Kit.ARGUMENT, z -> z.last(0, bad)));
        }
        all.add(new Thrown(13, "at(0, 0, 4)", Kit.INDEX, z -> z.at(0, 0L, 4)));
        all.add(new Thrown(14, "name(0, 0, 3)", Kit.STATE, z -> z.name(0, 0L, 3)));
        all.add(new Thrown(14, "name(3, 5, 0)", Kit.STATE, z -> z.name(3, 5L, 0)));
        all.add(new Thrown(15, "clock(0, 8)", Kit.INDEX, z -> z.clock(0L, 8)));
        all.add(new Thrown(16, "seconds(1970, 13, 1, 0)", Kit.ARGUMENT, z -> z.seconds(1970L, 13, 1, 0)));
        all.add(new Thrown(16, "seconds(1970, 2, 29, 0)", Kit.ARGUMENT, z -> z.seconds(1970L, 2, 29, 0)));
        all.add(new Thrown(16, "seconds(1970, 1, 1, 86400)", Kit.ARGUMENT, z -> z.seconds(1970L, 1, 1, 86400)));
    }

    private static void addChanges(List<Thrown> all) {
        for (int zone : NO_ZONES) {
            all.add(new Thrown(21, "stretch(" + zone + ", 1970)", Kit.INDEX, z -> z.stretch(zone, 1970)));
            all.add(new Thrown(22, "write(" + zone + ", 50)", Kit.INDEX, z -> z.write(zone, 50)));
        }
        all.add(new Thrown(21, "stretch(1, 1969)", Kit.ARGUMENT, z -> z.stretch(1, 1969)));
        all.add(new Thrown(21, "stretch(1, 2401)", Kit.ARGUMENT, z -> z.stretch(1, 2401)));
        all.add(new Thrown(21, "stretch(2, 1970)", Kit.STATE, z -> z.stretch(2, 1970)));
        all.add(new Thrown(21, "stretch(3, 1970)", Kit.STATE, z -> z.stretch(3, 1970)));
        all.add(new Thrown(22, "write(1, 49)", Kit.ARGUMENT, z -> z.write(1, 49)));
        all.add(new Thrown(22, "write(0, 50)", Kit.STATE, z -> z.write(0, 50)));
    }

    /** What a full tape has is not changed by octets that it does not take. */
    private static void fullTape() {
        Kit.sentence(2, "A call that throws changes nothing");
        String text = "#@1\n0 0\n#" + "x".repeat(5990) + "\n";
        for (int n = 1; n <= 8; n++) {
            int own = n;
            ZoneFiles z = new ZoneFiles();
            Kit.feed(z, Kit.bytes(text));
            Kit.dueThrow("feed(" + n + ", -1)", Kit.ARGUMENT, () -> z.feed(own, -1L));
            Kit.due("table()", z.table(), 0);
            Kit.due("told(1)", z.told(1), 1L - 2208988800L);
        }
    }

    private static void readFault(byte[] tape, int fault) {
        Kit.sentence(3, "a FAULT leaves ZONE or TABLE as it was (the tape is used up)");
        for (int zone : new int[] {0, 1, 3}) {
            staysBut("FAULT " + fault + " in ZONE " + zone, "", z -> {
                Kit.feed(z, tape);
                return "" + z.read(zone);
            }, "" + fault, 7, 8);
            ZoneFiles z = made("");
            Kit.feed(z, tape);
            z.read(zone);
            Kit.due("the tape is used up", z.feed(1, 0L), 1);
        }
    }

    private static void faultsOfRead() {
        Kit.Tape tape = file();
        // Another rule, so that a ZONE that were changed would show it.
        tape.rule = "EST5EDT,M4.1.0,M10.1.0";
        tape.chars = "EST\0EDT\0+-8\0";
        tape.times = new long[] {-99L, 1L, 101L};
        byte[] good = tape.bytes();
        int own = tape.place(0) - 44;
        int footer = tape.place(7);
        readFault(new byte[0], 1);
        readFault(Kit.cut(good, footer), 1);
        readFault(Kit.cut(good, good.length - 1), 1);
        readFault(Kit.with(good, own, 'X'), 2);
        readFault(Kit.with(good, own + 4, 50), 3);
        readFault(Kit.with(good, own + 40, 1), 4);
        readFault(Kit.with(good, tape.place(0) + 16, 127), 5);
        readFault(Kit.with(good, tape.place(1) + 2, 3), 6);
        readFault(Kit.with(good, tape.place(2) + 12, 127), 7);
        readFault(Kit.with(good, tape.place(2) + 16, 2), 8);
        readFault(Kit.with(good, tape.place(2) + 17, 12), 9);
        readFault(Kit.with(good, tape.place(3) + 8, '_'), 10);
        readFault(Kit.with(good, tape.place(4) + 12, 128), 11);
        readFault(Kit.with(good, tape.place(4) + 23, 1), 12);
        readFault(Kit.with(good, tape.place(6) + 1, 1), 13);
        readFault(Kit.with(good, footer, 'X'), 14);
        readFault(Kit.with(good, good.length - 2, '7'), 15);
        tape.behind = "\n";
        readFault(tape.bytes(), 16);
        readFault(Kit.with(good, footer + 4, '6'), 17);
    }

    private static void faultsOfRule() {
        Kit.sentence(4, "a FAULT leaves ZONE or TABLE as it was (the tape is used up)");
        String[] texts = {"", "AB", "XYZ", "XYZ25", "XYZ9ABC", "XYZ9ABC,J1,J366", "XYZ9ABC,M1.1.1,M2.2.2/3/", "XYZ9ABC8,1/+9,2/+8x"};
        for (String text : texts) {
            for (int zone : new int[] {0, 1, 3}) {
                staysBut("rule " + text + " in ZONE " + zone, "", z -> {
                    Kit.feed(z, Kit.bytes(text));
                    return "" + z.rule(zone, true);
                }, text.isEmpty() ? "1" : "15", 7, 8);
                ZoneFiles z = made("");
                Kit.feed(z, Kit.bytes(text));
                z.rule(zone, true);
                Kit.due("the tape is used up", z.feed(1, 0L), 1);
            }
        }
    }

    private static void faultsOfTable() {
        Kit.sentence(5, "a FAULT leaves ZONE or TABLE as it was (the tape is used up)");
        StringBuilder rows = new StringBuilder();
        for (int i = 0; i < 61; i++) {
            rows.append(86400L * i).append(' ').append(i).append('\n');
        }
        String[] texts = {"#@5\n0 7\nx", "#@5\n0 7\n86401 8\n", "#@5\n0 7\n86400 9\n", rows.toString(), "#@5\n0 7\n#@6\n", "#@5\n", "0 7\n86400 8\n172800 9\n", "#@5\n86400 7\n"};
        for (int i = 0; i < texts.length; i++) {
            String text = texts[i];
            staysBut("FAULT " + (i + 1), "", z -> {
                Kit.feed(z, Kit.bytes(text));
                return "" + z.table();
            }, "" + (i + 1), 7, 8);
            ZoneFiles z = made("");
            Kit.feed(z, Kit.bytes(text));
            z.table();
            Kit.due("the tape is used up", z.feed(1, 0L), 1);
        }
    }

    private static void noStretch() {
        Kit.sentence(21, "NONE, when there would be more than 200 times, 40 types, or 200 bytes of CHAR (the ZONE stays)");
        staysBut("stretch(0, 2400)", TAPE, z -> "" + z.stretch(0, 2400), "" + ZoneFiles.NONE);
        staysBut("stretch(1, 2070)", TAPE, z -> "" + z.stretch(1, 2070), "" + ZoneFiles.NONE);
    }

    /** What only asks changes nothing, either. */
    private static void questions() {
        Kit.sentence(13, "Nothing is promised beyond the answers and state changes described above");
        staysBut("questions", TAPE, z -> {
            for (int zone = 0; zone < 4; zone++) {
                z.at(zone, 1720000000L, 0);
                z.name(2, Kit.GREATEST, 0);
                z.next(zone, Kit.LEAST);
                z.last(zone, Kit.GREATEST);
            }
            z.clock(5L, 0);
            z.seconds(2000L, 2, 29, 0);
            z.atomic(5L);
            z.instant(5L);
            return "" + z.isLeap(5L);
        }, "false");
    }

    private static void changesOfOneThing() {
        Kit.sentence(17, "they are FOUND");
        staysBut("find", TAPE, z -> "" + z.find(1, 99L * 86400L), "0", 5);
        Kit.sentence(21, "The ZONE gets times more");
        staysBut("stretch", TAPE, z -> "" + z.stretch(1, 1970), "2", 1);
        Kit.sentence(22, "A ZONE is WRITTEN");
        staysBut("write", TAPE, z -> "" + z.write(2, 0), "54", 4);
        Kit.sentence(24, "What was WRITTEN last comes on the tape");
        staysBut("again", TAPE, z -> "" + z.again(), "60", 8);
        Kit.sentence(2, "come behind the tape");
        staysBut("feed", TAPE, z -> "" + z.feed(1, 0L), "8", 8);
        Kit.sentence(4, "one that was read takes the place of the one that was there");
        staysBut("rule", TAPE, z -> "" + z.rule(3, true), "0", 3, 8);
        Kit.sentence(3, "one that was read takes the place of the one that was there");
        staysBut("read", "", z -> "" + Kit.read(z, 1, file().bytes()), "0", 1, 8);
        Kit.sentence(5, "The tape is read as a TABLE");
        staysBut("table", "", z -> "" + Kit.table(z, "#@1\n0 0\n"), "0", 6, 8);
    }
}
