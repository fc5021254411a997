/** Promises 4 (rule) and 6 (place): RULE TEXTS. */
public final class RuleTest {
    public static void main(String[] args) {
        zoneOfRule();
        goodTexts();
        badTexts();
        emptyText();
        wrongZones();
        Kit.end();
    }

    private static void zoneOfRule() {
        ZoneFiles z = new ZoneFiles();
        // A zone with all rows, so that the rule has something to take away.
        Kit.Tape tape = new Kit.Tape();
        tape.times = new long[] {5L};
        tape.timeTypes = new int[] {0};
        tape.leaps = new long[][] {{5L, 1}};
        tape.stds = new int[] {1};
        tape.uts = new int[] {1};
        Kit.due("read", Kit.read(z, 1, tape.bytes()), 0);
        Kit.due("rule", Kit.rule(z, 1, "<-03>3<-02>,M3.5.0/-2,M10.5.0/-1", true), 0);
        int[] zone = {51, 0, 2, 8, 0, 0, 0, 32};
        for (int what = 0; what < zone.length; what++) {
            Kit.due("zone " + what, z.zone(1, what), zone[what]);
        }
        int[][] types = {{-10800, 0, 0, 3, 0, 0}, {-7200, 1, 4, 3, 0, 0}};
        for (int i = 0; i < 2; i++) {
            for (int what = 0; what < 6; what++) {
                Kit.due("type " + i + " " + what, z.type(1, i, what), types[i][what]);
            }
        }
        Kit.due("CHAR", Kit.letters(z, 1, 0).equals("-03\0-02\0"), true);
        Kit.due("text", Kit.letters(z, 1, 1).equals("<-03>3<-02>,M3.5.0/-2,M10.5.0/-1"), true);
        Kit.due("rule", Kit.rule(z, 1, "ABCDEFGHIJ-24:59:59", false), 0);
        Kit.due("version", z.zone(1, 0), 50);
        Kit.due("types", z.zone(1, 2), 1);
        Kit.due("offset", z.type(1, 0, 0), 89999);
        Kit.due("CHAR", Kit.letters(z, 1, 0).equals("ABCDEFGHIJ\0"), true);
        Kit.due("the same NAME twice", Kit.rule(z, 1, "ABC1ABC,1,2", false), 0);
        Kit.due("CHAR", Kit.letters(z, 1, 0).equals("ABC\0ABC\0"), true);
        Kit.due("index", z.type(1, 1, 2), 4);
    }

    private static void goodText(String text, boolean wide, int standard, int summer) {
        ZoneFiles z = new ZoneFiles();
        Kit.due("rule " + text, Kit.rule(z, 0, text, wide), 0);
        Kit.due("place", z.place(), -1);
        Kit.due("standard of " + text, z.type(0, 0, 0), standard);
        Kit.due("types of " + text, z.zone(0, 2), summer == ZoneFiles.NONE ? 1 : 2);
        if (summer != ZoneFiles.NONE) {
            Kit.due("summer of " + text, z.type(0, 1, 0), summer);
        }
    }

    private static void goodTexts() {
        int none = ZoneFiles.NONE;
        goodText("UTC0", false, 0, none);
        goodText("UTC+0", false, 0, none);
        goodText("UTC-000:000:000", false, 0, none);
        goodText("abc24:59:59", false, -89999, none);
        goodText("<+-9>+1:02:03", false, -3723, none);
        goodText("<ABCDEFGHIJ>-1:2", false, 3720, none);
        goodText("EST5EDT,0,365", false, -18000, -14400);
        goodText("EST5EDT4:30,J1,J365", false, -18000, -16200);
        goodText("EST5EDT+6,J001/0,M01.5.6/24:59:59", false, -18000, -21600);
        goodText("EST-24:59:59EDT,M12.1.0/00:00:00,M1.5.6", false, 89999, 93599);
        goodText("EST5EDT-24:59:59,M12.1.0/00:00:00,M1.5.6", false, -18000, 89999);
        goodText("EST5EDT,0/+167:59:59,J365/-167:59:59", true, -18000, -14400);
        goodText("EST5EDT,0/25,J365/24", true, -18000, -14400);
        goodText("EST5<--->-9,0/025:9,J365/2", true, -18000, 32400);
    }

    /** The place is told by the bar. */
    private static void badText(String marked, boolean wide) {
        int place = marked.indexOf('|');
        String text = marked.substring(0, place) + marked.substring(place + 1);
        ZoneFiles z = new ZoneFiles();
        Kit.due("rule " + marked, Kit.rule(z, 2, text, wide), 15);
        Kit.due("place of " + marked, z.place(), place);
        Kit.due("the zone stays", Kit.letters(z, 2, 1).equals("UTC0"), true);
        Kit.due("the tape is used up", z.feed(1, 0L), 1);
        Kit.Tape tape = new Kit.Tape();
        tape.version = wide ? 51 : 50;
        tape.rule = text;
        if (text.indexOf('\n') < 0) {
            Kit.due("read " + marked, Kit.read(new ZoneFiles(), 0, tape.bytes()), 15);
        }
    }

    private static void badTexts() {
        String[] both = {
            "|5", "|\n", "|,", "E|", "ES|", "ES|5", "EST|", "EST|!", "ABCDEFGHIJ|K5", "| EST5", "EST| 5", "EST5|\n", "EST5| ",
            "<|", "<A|", "<AB|>5", "<AB|!C>5", "<ABC|", "<ABC|_>5", "<ABCDEFGHIJ|K>5", "<ABC>|", "<ABC>|<", "<|<ABC>5", "|>ABC<5",
            "EST+|", "EST-|:5", "EST+|-5", "EST|25", "EST|25:00", "EST|99", "EST|240", "EST000|0", "EST999|9", "EST5:|", "EST5:|60", "EST5:1:|60",
            "EST5:1:|", "EST5:1:2|:3", "EST5:|:3", "EST5|,M3.2.0,M11.1.0", "EST5:000|0",
            "EST5E|", "EST5ED|", "EST5EDT|", "EST5EDT|!", "EST5EDT4|", "EST5EDT4|EXT", "EST5EDTABCDEFG|H,1,2", "EST5<ED|>,1,2",
            "EST5EDT|25,1,2", "EST5EDT,|", "EST5EDT,|,", "EST5EDT,1|", "EST5EDT,1,|", "EST5EDT,1,|x", "EST5EDT,1,2|,", "EST5EDT,1,2|,3",
            "EST5EDT,|366,1", "EST5EDT,365,|366", "EST5EDT,J|0,1", "EST5EDT,J|366,1", "EST5EDT,J|,1", "EST5EDT,J|J1,1", "EST5EDT,|j1,1",
            "EST5EDT,M|0.1.1,1", "EST5EDT,M|13.1.1,1", "EST5EDT,M1|,1", "EST5EDT,M1|:1.1,1", "EST5EDT,M1.|0.1,1", "EST5EDT,M1.|6.1,1",
            "EST5EDT,M1.1|,1", "EST5EDT,M1.1.|7,1", "EST5EDT,M1.1.|,1", "EST5EDT,M1.1.0|.,1", "EST5EDT,M|,1", "EST5EDT,|m1.1.1,1",
            "EST5EDT,1/|,2", "EST5EDT,1/|x,2", "EST5EDT,1/2|/2,2", "EST5EDT,1/2:|60,2", "EST5EDT,1,2/|", "EST5EDT,1,2/3|\n", "EST5EDT,1,2/3|x",
            "EST5EDT,1|+2,3", "EST5EDT,|+1,3", "EST5EDT,000|1,3", "EST5EDT,M001|2.1.1,3", "EST5EDT|/1,1,2",
            "EST5EDT,1,2/3:4:5|:", "EST5EDT,1|;2", "|\u00c5ST5",
        };
        for (String text : both) {
            badText(text, false);
            badText(text, true);
        }
        badText("EST5EDT,1/|+2,2", false);
        badText("EST5EDT,1/|-2,2", false);
        badText("EST5EDT,1/|25,2", false);
        badText("EST5EDT,1,2/|25:00", false);
        badText("EST5EDT,1/|168,2", true);
        badText("EST5EDT,1/-|168,2", true);
        badText("EST5EDT,1/+|-1,2", true);
        badText("EST|25EDT,1/+1,2", true);
        badText("EST5EDT|167,1/+1,2", true);
    }

    private static void emptyText() {
        ZoneFiles z = new ZoneFiles();
        Kit.due("rule", Kit.rule(z, 1, "EST6", false), 0);
        Kit.due("empty", z.rule(1, false), 1);
        Kit.due("place", z.place(), 0);
        Kit.due("the zone stays", z.at(1, 0L, 0), -21600);
        Kit.due("bad", Kit.rule(z, 1, "EST6x", true), 15);
        Kit.due("place", z.place(), 5);
        Kit.due("empty", z.rule(1, true), 1);
        Kit.due("place", z.place(), 0);
    }

    private static void wrongZones() {
        ZoneFiles z = new ZoneFiles();
        Kit.feed(z, Kit.bytes("EST6"));
        for (int bad : new int[] {-1, 4, Integer.MIN_VALUE, Integer.MAX_VALUE}) {
            Kit.dueThrow("rule", Kit.INDEX, () -> z.rule(bad, false));
        }
        Kit.due("the tape stays", z.feed(1, '7'), 5);
        Kit.due("rule", z.rule(0, false), 15);
        Kit.due("rule", z.place(), 3);
    }
}
