/** Promises 1 (a new object), 2 (feed), and the tape of 3, 4, 5 and 24, at their edges. */
public final class TapeEdgesTest {
    /** What write makes of the zone of wideTape(): 200 times. */
    private static final int FILE_SIZE = 51 + 44 + 200 * 9 + 12 + 8 + 24;

    public static void main(String[] args) {
        fourZones();
        nothingYet();
        emptyTape();
        howManyOctets();
        whichOctets();
        mostOctets();
        fullTapes();
        usedUp();
        Kit.end();
    }

    private static void fourZones() {
        ZoneFiles z = new ZoneFiles();
        Kit.sentence(1, "Four ZONES");
        for (int zone = 0; zone < 4; zone++) {
            int[] counts = {50, 0, 1, 4, 0, 0, 0, 4};
            for (int what = 0; what < counts.length; what++) {
                Kit.due("zone(" + zone + ", " + what + ")", z.zone(zone, what), counts[what]);
            }
            int[] type = {0, 0, 0, 3, 0, 0};
            for (int what = 0; what < type.length; what++) {
                Kit.due("type(" + zone + ", 0, " + what + ")", z.type(zone, 0, what), type[what]);
            }
            Kit.due("CHAR", Kit.letters(z, zone, 0), "UTC\0");
            Kit.due("the RULE TEXT", Kit.letters(z, zone, 1), "UTC0");
            int own = zone;
            Kit.dueThrow("time 0", Kit.INDEX, () -> z.time(own, 0));
            Kit.dueThrow("the type of time 0", Kit.INDEX, () -> z.typeAt(own, 0));
            Kit.dueThrow("type 1", Kit.INDEX, () -> z.type(own, 1, 0));
            Kit.dueThrow("leap record 0", Kit.INDEX, () -> z.leap(own, 0, 0));
            Kit.due("it has UTC at the least INSTANT", z.at(zone, Kit.LEAST, 0), 0);
            Kit.due("and by its RULE", z.at(zone, Kit.GREATEST, 3), -1);
        }
        Kit.dueThrow("zone(-1, 0)", Kit.INDEX, () -> z.zone(-1, 0));
        Kit.dueThrow("zone(4, 0)", Kit.INDEX, () -> z.zone(4, 0));
    }

    private static void nothingYet() {
        ZoneFiles z = new ZoneFiles();
        Kit.sentence(1, "no TABLE; an empty tape; nothing written, nothing found");
        Kit.dueThrow("told(0)", Kit.STATE, () -> z.told(0));
        Kit.dueThrow("told(1)", Kit.STATE, () -> z.told(1));
        Kit.dueThrow("row(0, 0)", Kit.INDEX, () -> z.row(0, 0));
        Kit.dueThrow("out(0)", Kit.INDEX, () -> z.out(0));
        Kit.dueThrow("found(0)", Kit.INDEX, () -> z.found(0));
        Kit.due("atomic(0)", z.atomic(0L), ZoneFiles.NEVER);
        Kit.due("instant(0)", z.instant(0L), ZoneFiles.NEVER);
        Kit.due("isLeap(0)", z.isLeap(0L), false);
        Kit.due("the tape's size behind one octet", z.feed(1, 0L), 1);
        Kit.sentence(6, "-1 before one");
        Kit.due("place()", z.place(), -1);
    }

    private static void emptyTape() {
        Kit.sentence(3, "the tape ends too early (its size): within a HEADER");
        ZoneFiles z = new ZoneFiles();
        Kit.due("read(0) of an empty tape", z.read(0), 1);
        Kit.due("place()", z.place(), 0);
        Kit.sentence(4, "for an empty text 1");
        z = new ZoneFiles();
        Kit.due("rule(0, false)", z.rule(0, false), 1);
        Kit.due("place()", z.place(), 0);
        Kit.due("rule(0, true)", z.rule(0, true), 1);
        Kit.due("the ZONE stays", Kit.letters(z, 0, 1), "UTC0");
        Kit.sentence(5, "6 there is no ROW");
        z = new ZoneFiles();
        Kit.due("table() of an empty tape", z.table(), 6);
        Kit.due("place()", z.place(), 0);
        Kit.sentence(24, "What was WRITTEN last comes on the tape, instead of what is there");
        z = new ZoneFiles();
        Kit.due("again() when nothing was written", z.again(), 0);
        z.feed(5, 0L);
        Kit.due("again(), instead of five octets", z.again(), 0);
        Kit.due("the tape's size behind one octet", z.feed(1, 0L), 1);
    }

    private static void howManyOctets() {
        Kit.sentence(2, "n is not 1 .. 8");
        ZoneFiles z = new ZoneFiles();
        for (int bad : new int[] {Integer.MIN_VALUE, -8, -1, 0, 9, 64, Integer.MAX_VALUE}) {
            Kit.dueThrow("feed(" + bad + ", 0)", Kit.ARGUMENT, () -> z.feed(bad, 0L));
        }
        int size = 0;
        for (int n = 1; n <= 8; n++) {
            size += n;
            Kit.due("feed(" + n + ", 0)", z.feed(n, 0L), size);
        }
    }

    /** Bytes of CHAR that no type has may be any: so the tape's octets can be looked at. */
    private static void whichOctets() {
        Kit.sentence(2, "The n lowest octets of a long, the lowest first");
        byte[] file = new Kit.Tape().bytes();
        for (int n = 1; n <= 8; n++) {
            Kit.Tape tape = new Kit.Tape();
            tape.chars = "UTC\0" + "x".repeat(n);
            byte[] all = tape.bytes();
            int place = tape.place(3) + 4;
            ZoneFiles z = new ZoneFiles();
            Kit.feed(z, Kit.cut(all, place));
            Kit.due("feed " + n, z.feed(n, 0xFF807F0AFE0001F0L), place + n);
            Kit.feed(z, Kit.bytes("\n\n"));
            Kit.due("read", z.read(0), 0);
            int[] octets = {0xF0, 1, 0, 0xFE, 0x0A, 0x7F, 0x80, 0xFF};
            for (int i = 0; i < n; i++) {
                Kit.due("octet " + i + " of " + n, z.letter(0, 0, 4 + i), octets[i]);
            }
        }
        Kit.sentence(2, "come behind the tape");
        ZoneFiles one = new ZoneFiles();
        for (int i = 0; i < file.length; i++) {
            Kit.due("one octet more", one.feed(1, file[i] | 0x5555555555555500L), i + 1);
        }
        Kit.due("read", one.read(0), 0);
    }

    /**
     * A file, and zeros behind it up to a size: with the fewest calls. (A full tape takes some more than 512, behind
     * which answers are free; those here keep to the document all the same.)
     */
    private static ZoneFiles wideTape(int size) {
        ZoneFiles z = Kit.ruled("EST5EDT,M3.2.0,M11.1.0", false);
        Kit.due("stretch", z.stretch(0, 2069), 200);
        Kit.due("write", z.write(0, 50), FILE_SIZE);
        int now = z.again();
        while (now < size) {
            now = z.feed(Math.min(8, size - now), 0L);
        }
        return z;
    }

    private static void mostOctets() {
        Kit.sentence(2, "there would be more than 6000");
        for (int n = 1; n <= 8; n++) {
            int last = n;
            ZoneFiles z = wideTape(6000 - n);
            if (n < 8) {
                Kit.dueThrow("one octet too many", Kit.ARGUMENT, () -> z.feed(last + 1, -1L));
            }
            Kit.due("just 6000", z.feed(n, 0L), 6000);
            Kit.dueThrow("the 6001st", Kit.ARGUMENT, () -> z.feed(1, -1L));
            Kit.dueThrow("eight more", Kit.ARGUMENT, () -> z.feed(8, -1L));
            Kit.due("read", z.read(1), 16);
            Kit.due("place", z.place(), FILE_SIZE);
            Kit.due("an empty tape again", z.feed(8, 0L), 8);
        }
        Kit.sentence(24, "What was WRITTEN last comes on the tape, instead of what is there");
        ZoneFiles z = wideTape(6000);
        Kit.due("again() instead of a full tape", z.again(), FILE_SIZE);
        Kit.due("one octet more", z.feed(1, 10L), FILE_SIZE + 1);
    }

    private static void fullTapes() {
        Kit.sentence(2, "there would be more than 6000");
        String start = "#@1\n0 0\n#";
        String text = start + "x".repeat(5999 - start.length()) + "\n";
        ZoneFiles z = new ZoneFiles();
        Kit.feed(z, Kit.bytes(text));
        Kit.dueThrow("one more", Kit.ARGUMENT, () -> z.feed(1, 'x'));
        Kit.due("table() of 6000 bytes", z.table(), 0);
        Kit.due("told(0)", z.told(0), 1);
        Kit.sentence(5, "the tape's size, when it ends within a line");
        ZoneFiles w = new ZoneFiles();
        Kit.due("table() of 6000 bytes without an end", Kit.table(w, text.substring(0, 5999) + "x"), 1);
        Kit.due("place()", w.place(), 6000);
        Kit.sentence(5, "lines without bytes");
        Kit.due("table() of 6000 lines", Kit.table(w, "\n".repeat(6000)), 6);
        Kit.due("place()", w.place(), 6000);
        Kit.due("table() of lines and a ROW", Kit.table(w, "\n".repeat(5992) + "#@1\n0 0\n"), 0);
        Kit.sentence(4, "an 11th byte at itself");
        Kit.due("rule() of 6000 letters", Kit.rule(w, 0, "A".repeat(6000), true), 15);
        Kit.due("place()", w.place(), 10);
    }

    private static void usedUp() {
        String[] files = {"", "X", "TZif", "TZif!"};
        for (String text : files) {
            for (int which = 0; which < 4; which++) {
                Kit.sentence(which < 2 ? 3 + which : which == 2 ? 4 : 5, "what reads it uses it up");
                ZoneFiles z = new ZoneFiles();
                Kit.feed(z, Kit.bytes(text));
                boolean fault = (which == 0 ? z.read(1) : which == 3 ? z.table() : z.rule(1, which == 2)) != 0;
                Kit.due("a FAULT of " + text, fault, true);
                Kit.due("the tape's size behind one octet", z.feed(1, 0L), 1);
            }
        }
        Kit.sentence(3, "what reads it uses it up");
        ZoneFiles z = new ZoneFiles();
        Kit.due("read", Kit.read(z, 0, new Kit.Tape().bytes()), 0);
        Kit.due("a second time there is nothing", z.read(0), 1);
        Kit.due("place", z.place(), 0);
        Kit.sentence(4, "what reads it uses it up");
        Kit.due("rule", Kit.rule(z, 0, "ABC1", false), 0);
        Kit.due("a second time there is nothing", z.rule(0, false), 1);
        Kit.sentence(5, "what reads it uses it up");
        Kit.due("table", Kit.table(z, "#@1\n0 0\n"), 0);
        Kit.due("a second time there is nothing", z.table(), 6);
        Kit.due("the TABLE stays", z.told(0), 1);
    }
}
