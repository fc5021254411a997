/**
 * Promises 4 (rule), 3 (read) and 6 (place): RULE TEXTS, with the last that is taken and the first that is not. Each
 * text is read by itself and as a FOOTER, of both VERSIONS unless one is told. A bar tells the byte that can't stand.
 */
public final class RuleTextEdgesTest {
    public static void main(String[] args) {
        names();
        nameBytes();
        offsets();
        days();
        times();
        digits();
        shapes();
        endsTooEarly();
        longest();
        emptyText();
        zoneOfText();
        wrongZones();
        Kit.end();
    }

    private static void taken(String text, boolean wide) {
        ZoneFiles z = new ZoneFiles();
        Kit.due("rule " + text, Kit.rule(z, 1, text, wide), 0);
        Kit.due("place of " + text, z.place(), -1);
        Kit.due("its text", Kit.letters(z, 1, 1), text);
        Kit.due("its version", z.zone(1, 0), wide ? 51 : 50);
        Kit.due("the tape is used up", z.feed(1, 0L), 1);
        Kit.due("as a FOOTER " + text, Kit.filed(footer(text, wide)).zone(0, 7), text.length());
    }

    private static void refused(String marked, boolean wide) {
        int place = marked.indexOf('|');
        String text = marked.substring(0, place) + marked.substring(place + 1);
        ZoneFiles z = new ZoneFiles();
        Kit.due("rule " + marked, Kit.rule(z, 1, text, wide), 15);
        Kit.due("place of " + marked, z.place(), place);
        Kit.due("the ZONE stays", Kit.letters(z, 1, 1), "UTC0");
        Kit.due("the tape is used up", z.feed(1, 0L), 1);
        if (text.indexOf('\n') < 0) {
            Kit.Tape tape = footer(text, wide);
            ZoneFiles w = new ZoneFiles();
            Kit.due("as a FOOTER " + marked, Kit.read(w, 1, tape.bytes()), 15);
            Kit.due("place of a FOOTER " + marked, w.place(), tape.place(7) + 1 + place);
        }
    }

    private static Kit.Tape footer(String text, boolean wide) {
        Kit.Tape tape = new Kit.Tape();
        tape.version = wide ? 51 : 50;
        tape.rule = text;
        return tape;
    }

    private static void taken(String... texts) {
        for (String text : texts) {
            taken(text, false);
            taken(text, true);
        }
    }

    private static void refused(String... texts) {
        for (String text : texts) {
            refused(text, false);
            refused(text, true);
        }
    }

    private static void names() {
        Kit.sentence(4, "NAME: 3 .. 10 letters, all that follow one another");
        taken("ABC0", "ABCDEFGHIJ0", "ABC0DEF,0,1", "ABC0ABCDEFGHIJ,0,1");
        Kit.sentence(4, "or < and 3 .. 10 letters, digits, + and -, and >");
        taken("<ABC>0", "<+-9>0", "<ABCDEFGHIJ>0", "ABC0<123>,0,1", "ABC0<ABCDEFGHIJ>,0,1");
        refused("<ABC|", "<ABC|<5", "|>ABC<0", "ABC|>0", "ABC0<DEF|,0,1", "<ABC>|>0", "<|<ABC>>0");
        Kit.sentence(4, "A NAME that is too short can't stand behind its last byte");
        refused("|0", "A|0", "AB|0", "AB|", "<|>0", "<A|>0", "<AB|>0", "<AB|", "ABC0D|,0,1", "ABC0DE|,0,1", "ABC0DE|", "ABC0<|>,0,1", "ABC0<DE|>,0,1");
        Kit.sentence(4, "an 11th byte at itself");
        refused("ABCDEFGHIJ|K0", "ABCDEFGHIJ|KL0", "<ABCDEFGHIJ|K>0", "<ABCDEFGHIJ|1>0", "ABC0ABCDEFGHIJ|K,0,1", "ABC0<ABCDEFGHIJ|+>,0,1");
    }

    private static void nameBytes() {
        String letters = "abcdefghijklmnopqrstuvwxyzABCDEFGHIJKLMNOPQRSTUVWXYZ";
        for (int octet = 0; octet < 256; octet++) {
            char c = (char) octet;
            if (c == '|') {
                continue;
            }
            boolean letter = letters.indexOf(c) >= 0;
            Kit.sentence(4, "3 .. 10 letters");
            if (letter) {
                taken("a" + c + "b0", false);
                taken(c + "ab0", true);
            } else {
                refused("a|" + c + "b0", false);
                if (c != '<') {
                    refused("|" + c + "ab0", true);
                }
            }
            Kit.sentence(4, "3 .. 10 letters, digits, + and -, and >");
            if (letter || c >= '0' && c <= '9' || c == '+' || c == '-') {
                taken("<a" + c + "b>0", false);
                taken("<ab" + c + ">0", true);
            } else {
                refused("<a|" + c + "b>0", false);
                if (c != '>') {
                    refused("<abc|" + c + ">0", true);
                }
            }
        }
    }

    private static void offset(String text, int seconds) {
        taken(text, false);
        ZoneFiles z = Kit.ruled(text, false);
        Kit.due("the STANDARD of " + text, z.type(0, 0, 0), seconds);
    }

    private static void offsets() {
        Kit.sentence(4, "OFFSET: perhaps + or -; a number 0 .. 24");
        offset("ABC0", 0);
        offset("ABC-0", 0);
        offset("ABC5", -18000);
        offset("ABC+5", -18000);
        offset("ABC-5", 18000);
        offset("ABC24", -86400);
        offset("ABC-24", 86400);
        refused("ABC|25", "ABC+|25", "ABC-|25", "ABC|99", "ABC|100", "ABC|999", "ABC|", "ABC+|", "ABC-|", "ABC+|+5", "ABC-|-5", "ABC|:5", "ABC| 5");
        Kit.sentence(4, "perhaps : and a number 0 .. 59");
        offset("ABC0:0", 0);
        offset("ABC0:59", -3540);
        offset("ABC-24:59", 89940);
        refused("ABC0:|60", "ABC0:|99", "ABC0:|", "ABC0:|-1", "ABC0:|+1", "ABC0:|:1");
        Kit.sentence(4, "perhaps, behind that, : and a number 0 .. 59");
        offset("ABC0:0:0", 0);
        offset("ABC0:0:59", -59);
        offset("ABC24:59:59", -89999);
        offset("ABC-24:59:59", 89999);
        refused("ABC0:0:|60", "ABC0:0:|", "ABC0:0:|-1", "ABC0:0:0|:", "ABC0:0:0|:0");
        Kit.sentence(4, "with an OFFSET, perhaps, behind the second NAME");
        taken("ABC0DEF,0,1", "ABC0DEF0,0,1", "ABC0DEF24:59:59,0,1", "ABC0DEF-24:59:59,0,1", "ABC0DEF+0:59,0,1");
        refused("ABC0DEF|25,0,1", "ABC0DEF-|25,0,1", "ABC0DEF0:|60,0,1", "ABC0DEF0:0:|60,0,1", "ABC0DEF+|,0,1", "ABC0DEF|:0,0,1");
        Kit.due("the SUMMER without one", Kit.ruled("ABC-24:59:59DEF,0,1", false).type(0, 1, 0), 93599);
        Kit.due("the SUMMER without one", Kit.ruled("ABC24:59:59DEF,0,1", false).type(0, 1, 0), -86399);
        Kit.due("the SUMMER with its own", Kit.ruled("ABC0DEF24:59:59,0,1", false).type(0, 1, 0), -89999);
    }

    private static void days() {
        Kit.sentence(4, "J and a number 1 .. 365");
        taken("ABC0DEF,J1,J365", "ABC0DEF,J365,J001");
        refused("ABC0DEF,J|0,0", "ABC0DEF,J|366,0", "ABC0DEF,0,J|0", "ABC0DEF,0,J|366", "ABC0DEF,J|999,0", "ABC0DEF,J|,0", "ABC0DEF,J|-1,0", "ABC0DEF,|j1,0");
        Kit.sentence(4, "a number 0 .. 365");
        taken("ABC0DEF,0,365", "ABC0DEF,365,0", "ABC0DEF,000,001");
        refused("ABC0DEF,|366,0", "ABC0DEF,0,|366", "ABC0DEF,|999,0", "ABC0DEF,|-1,0", "ABC0DEF,|,0", "ABC0DEF,0,|");
        Kit.sentence(4, "M, a number 1 .. 12, ., a number 1 .. 5, ., a number 0 .. 6");
        taken("ABC0DEF,M1.1.0,M12.5.6", "ABC0DEF,M12.5.6,M1.1.0", "ABC0DEF,M01.001.000,M012.05.06");
        for (String day : new String[] {"M|0.1.0", "M|13.1.0", "M1.|0.0", "M1.|6.0", "M1.1.|7", "M|.1.0", "M1.|.0", "M1.1.|", "M1|", "M1.1|", "M1|:1.0", "M1.1|:0", "|m1.1.0"}) {
            refused("ABC0DEF," + day + ",0", "ABC0DEF,0," + day);
        }
    }

    private static void times() {
        Kit.sentence(4, "TIME: as OFFSET; without + and -, unless the VERSION is 51");
        taken("ABC0DEF,0/0,1/0", "ABC0DEF,0/24:59:59,1/24:59:59", "ABC0DEF,0/2,1", "ABC0DEF,0,1/2");
        for (String sign : new String[] {"+", "-"}) {
            refused("ABC0DEF,0/|" + sign + "1,1", false);
            refused("ABC0DEF,0,1/|" + sign + "1", false);
            taken("ABC0DEF,0/" + sign + "1,1", true);
            taken("ABC0DEF,0,1/" + sign + "1", true);
            refused("ABC0DEF,0/" + sign + "|+1,1", true);
            refused("ABC0DEF,0/" + sign + "|,1", true);
        }
        Kit.sentence(4, "when the first number is 0 .. 167");
        for (String hours : new String[] {"25", "99", "167"}) {
            refused("ABC0DEF,0/|" + hours + ",1", false);
            refused("ABC0DEF,0,1/|" + hours + ":00", false);
            taken("ABC0DEF,0/" + hours + ",1/" + hours + ":59:59", true);
            taken("ABC0DEF,0/-" + hours + ":59:59,1/+" + hours, true);
        }
        refused("ABC0DEF,0/|168,1", "ABC0DEF,0,1/|168", "ABC0DEF,0/|999,1");
        refused("ABC0DEF,0/-|168,1", true);
        refused("ABC0DEF,0,1/+|168", true);
        refused("ABC0DEF,0/0:|60,1", "ABC0DEF,0/0:0:|60,1", "ABC0DEF,0,1/0:|60", "ABC0DEF,0,1/0:0:|60", "ABC0DEF,0/|,1", "ABC0DEF,0,1/|", "ABC0DEF,0/0:|,1");
        Kit.sentence(4, "OFFSET: perhaps + or -; a number 0 .. 24");
        refused("ABC|25DEF,0/167,1", true);
        refused("ABC0DEF|25,0/167,1", true);
    }

    private static void digits() {
        Kit.sentence(4, "Numbers: one to three digits, all that follow one another");
        taken("ABC0", "ABC00", "ABC000", "ABC024", "ABC0:059:059", "ABC0DEF,J001,065/002:002:002", "ABC0DEF,M012.005.006,J365");
        Kit.sentence(4, "a fourth digit at itself");
        refused("ABC000|0", "ABC000|00", "ABC002|4", "ABC0:000|0", "ABC0:0:000|0", "ABC0DEF000|0,0,1", "ABC0DEF,J000|1,1", "ABC0DEF,000|1,1");
        refused("ABC0DEF,M000|1.1.1,1", "ABC0DEF,M1.000|1.1,1", "ABC0DEF,M1.1.000|1,1", "ABC0DEF,0/000|1,1", "ABC0DEF,0,1/1:000|1", "ABC0DEF,0,365|0");
        refused("ABC999|9", "ABC250|0", "ABC0DEF,366|0,1");
        Kit.sentence(4, "One that may not be can't stand at its first digit");
        refused("ABC|025", "ABC|250", "ABC0:|060", "ABC0DEF,J|000,1", "ABC0DEF,M|013.1.1,1", "ABC0DEF,M1.|006.1,1", "ABC0DEF,M1.1.|007,1", "ABC|25!", "ABC|025");
    }

    private static void shapes() {
        Kit.sentence(4, "NAME OFFSET; or NAME OFFSET NAME , DAY , DAY");
        taken("ABC0", "ABC0DEF,0,1");
        refused("ABC0|,0,1", "ABC0DEF|", "ABC0DEF0|", "ABC0DEF,0|", "ABC0DEF,0,1|,", "ABC0DEF,0,1|,2", "ABC0DEF,0,1| ", "ABC0DEF,0,1|D", "ABC0DEF|;0,1", "ABC0DEF,0|;1");
        refused("ABC0| DEF,0,1", "ABC0DEF| ,0,1", "ABC0DEF,| 0,1", "ABC0|\n", "ABC0|\0", "|\nABC0", "ABC0DEF,0,1|\n", "ABC0DEF0|DEF,0,1", "ABC0DEF,0/0|/0,1", "ABC0|/0");
        Kit.sentence(4, "and / TIME, perhaps, behind each DAY");
        taken("ABC0DEF,0/1,1/1", "ABC0DEF,J1/1,J2/1", "ABC0DEF,M1.1.1/1,M2.1.1/1");
    }

    private static void endsTooEarly() {
        Kit.sentence(4, "behind its last one, when it ends too early");
        String text = "<A+1>-5:06:07DEFG+8:09:10,M11.4.5/12:13:14,M2.3.0/15:16:17";
        for (int size = 1; size < text.length(); size++) {
            String part = text.substring(0, size);
            boolean plain = part.matches("<A\\+1>-5(:06?(:0?7?)?)?") && !part.endsWith(":");
            boolean whole = part.matches(".*,M2\\.3\\.0(/15?(:16?(:17?)?)?)?") && !part.endsWith(":");
            if (plain || whole) {
                taken(part);
            } else {
                refused(part + "|");
            }
        }
        taken(text);
    }

    private static void longest() {
        Kit.sentence(4, "The tape is read as a RULE TEXT");
        String text = "<ABCDEFGHIJ>-024:059:059<0123456789>-024:059:059,M012.005.006/-167:059:059,M012.005.006/+167:059:059";
        taken(text, true);
        refused(text + "|0", true);
        refused(text.replace("/-", "/|-"), false);
    }

    private static void emptyText() {
        Kit.sentence(4, "for an empty text 1");
        for (boolean wide : new boolean[] {false, true}) {
            ZoneFiles z = Kit.ruled("ABC1DEF,0,1", wide);
            Kit.due("rule", z.rule(0, wide), 1);
            Kit.due("place", z.place(), 0);
            Kit.due("the ZONE stays", Kit.letters(z, 0, 1), "ABC1DEF,0,1");
            Kit.due("its version too", z.zone(0, 0), wide ? 51 : 50);
        }
        Kit.sentence(3, "RULE TEXTS: none");
        Kit.due("a FOOTER without a text", Kit.filed(footer("", false)).zone(0, 7), 0);
    }

    private static void zoneOfText() {
        Kit.sentence(4, "the ZONE has no times then, its types are the STANDARD, and the SUMMER, if there is one");
        for (int zone = 0; zone < 4; zone++) {
            ZoneFiles z = new ZoneFiles();
            Kit.due("a full one before", Kit.read(z, zone, Kit.full(51).bytes()), 0);
            Kit.due("rule", Kit.rule(z, zone, "ABCDEFGHIJ1<+-9>-2,0,1", false), 0);
            int[] counts = {50, 0, 2, 15, 0, 0, 0, 22};
            for (int what = 0; what < counts.length; what++) {
                Kit.due("zone(" + zone + ", " + what + ")", z.zone(zone, what), counts[what]);
            }
            int[][] types = {{-3600, 0, 0, 10, 0, 0}, {7200, 1, 11, 3, 0, 0}};
            for (int i = 0; i < 12; i++) {
                Kit.due("type " + i / 6 + " " + i % 6, z.type(zone, i / 6, i % 6), types[i / 6][i % 6]);
            }
            int own = zone;
            Kit.dueThrow("no third type", Kit.INDEX, () -> z.type(own, 2, 0));
            Kit.dueThrow("no time", Kit.INDEX, () -> z.time(own, 0));
            Kit.dueThrow("no leap record", Kit.INDEX, () -> z.leap(own, 0, 0));
            Kit.sentence(4, "NAMES one behind the other in CHAR, each with a 0 behind it");
            Kit.due("CHAR", Kit.letters(z, zone, 0), "ABCDEFGHIJ\0+-9\0");
            Kit.due("rule", Kit.rule(z, zone, "ABC1ABC1,0,1", true), 0);
            Kit.due("the same NAME twice", Kit.letters(z, zone, 0), "ABC\0ABC\0");
            Kit.due("rule", Kit.rule(z, zone, "ABC1", true), 0);
            Kit.due("one type", z.zone(zone, 2), 1);
            Kit.due("one NAME", Kit.letters(z, zone, 0), "ABC\0");
        }
    }

    private static void wrongZones() {
        Kit.sentence(4, "there is no such ZONE");
        ZoneFiles z = new ZoneFiles();
        for (int bad : new int[] {Integer.MIN_VALUE, -1, 4, Integer.MAX_VALUE}) {
            Kit.dueThrow("rule(" + bad + ") of an empty tape", Kit.INDEX, () -> z.rule(bad, true));
        }
        Kit.feed(z, Kit.bytes("ABC!"));
        for (int bad : new int[] {Integer.MIN_VALUE, -1, 4, Integer.MAX_VALUE}) {
            Kit.dueThrow("rule(" + bad + ") of a wrong text", Kit.INDEX, () -> z.rule(bad, false));
        }
        Kit.due("no FAULT yet", z.place(), -1);
        Kit.due("the tape is still there", z.rule(3, false), 15);
    }
}
