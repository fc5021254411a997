/** Promises 5 (table), 6 (place), and 25 to 29: told, row, atomic, instant, isLeap. */
public final class TableTest {
    private static final long TO_1970 = 2208988800L;

    public static void main(String[] args) {
        goodTable();
        forms();
        badBytes();
        lineEnds();
        behindAll();
        faultLeavesTable();
        limits();
        everySecond();
        Kit.end();
    }

    private static void goodTable() {
        ZoneFiles z = new ZoneFiles();
        Kit.dueThrow("told without a table", Kit.STATE, () -> z.told(0));
        Kit.dueThrow("told of another", Kit.INDEX, () -> z.told(2));
        Kit.dueThrow("row without a table", Kit.INDEX, () -> z.row(0, 0));
        Kit.due("table", Kit.table(z, "# a text\n#@\t3896899200\n2272060800\t10\t# 1 Jan 1972\n2287785600 11\n\n"), 0);
        Kit.due("place", z.place(), -1);
        Kit.due("rows", z.told(0), 2);
        Kit.due("expires", z.told(1), 3896899200L - TO_1970);
        Kit.due("row 0", z.row(0, 0), 63072000L);
        Kit.due("row 0", z.row(0, 1), 10);
        Kit.due("row 1", z.row(1, 0), 78796800L);
        Kit.due("row 1", z.row(1, 1), 11);
        Kit.due("before the first", z.atomic(63071999L), ZoneFiles.NEVER);
        Kit.due("the first", z.atomic(63072000L), 63072010L);
        Kit.due("before the leap", z.atomic(78796799L), 78796809L);
        Kit.due("behind the leap", z.atomic(78796800L), 78796811L);
        Kit.due("leap", z.isLeap(78796810L), true);
        Kit.due("no leap", z.isLeap(78796809L), false);
        Kit.due("no leap", z.isLeap(78796811L), false);
        Kit.due("instant of a leap", z.instant(78796810L), 78796799L);
        Kit.due("instant before", z.instant(78796809L), 78796799L);
        Kit.due("instant behind", z.instant(78796811L), 78796800L);
        Kit.due("the last", z.atomic(z.told(1) - 1), z.told(1) + 10);
        Kit.due("behind the last", z.atomic(z.told(1)), ZoneFiles.NEVER);
        Kit.due("instant of the last", z.instant(z.told(1) + 10), z.told(1) - 1);
        Kit.due("instant behind the last", z.instant(z.told(1) + 11), ZoneFiles.NEVER);
        Kit.due("instant of the first", z.instant(63072010L), 63072000L);
        Kit.due("instant before the first", z.instant(63072009L), ZoneFiles.NEVER);
        for (long far : new long[] {Long.MIN_VALUE, Long.MAX_VALUE, Kit.LEAST, Kit.GREATEST}) {
            Kit.due("atomic far away", z.atomic(far), ZoneFiles.NEVER);
            Kit.due("instant far away", z.instant(far), ZoneFiles.NEVER);
            Kit.due("leap far away", z.isLeap(far), false);
        }
        for (int bad : new int[] {-1, 2, Integer.MIN_VALUE, Integer.MAX_VALUE}) {
            Kit.dueThrow("told", Kit.INDEX, () -> z.told(bad));
            Kit.dueThrow("row", Kit.INDEX, () -> z.row(bad, 0));
            Kit.dueThrow("row", Kit.INDEX, () -> z.row(0, bad));
        }
    }

    private static void goodForm(String text, int rows) {
        ZoneFiles z = new ZoneFiles();
        Kit.due("table " + text, Kit.table(z, text), 0);
        Kit.due("rows of " + text, z.told(0), rows);
    }

    private static void forms() {
        goodForm("#@1\n0 0\n", 1);
        goodForm("#@ \t 1 \t \n0 \t 0 \t \n", 1);
        goodForm("\n \n\t\n \t \n#@1\n0\t0#\n#\n#x@\n# #@ 5\n", 1);
        goodForm("0 9999999999# 5 \u00ff\u0001\n#@0000000001\n", 1);
        goodForm("0000000000 0000000005 # x\n86400 6\n172800 5\n#@172801\n", 3);
    }

    private static void fault(String text, int fault, int place) {
        ZoneFiles z = new ZoneFiles();
        Kit.due("table " + text, Kit.table(z, text), fault);
        Kit.due("place of " + text, z.place(), place);
        Kit.dueThrow("no table", Kit.STATE, () -> z.told(0));
        Kit.due("the tape is used up", z.feed(1, 0L), 1);
    }

    /** The place is told by the bar. */
    private static void badByte(String marked) {
        int place = marked.indexOf('|');
        fault(marked.substring(0, place) + marked.substring(place + 1), 1, place);
    }

    private static void badBytes() {
        String[] texts = {
            "|x\n", " |0 0\n", " |#\n", "\t|", "#|", "#abc|", "|@1\n", "|-1 0\n", "|\r\n",
            "0|\n", "0|", "0 |\n", "0 |", "0 |x\n", "0|x", "0 0|x\n", "0 0|", "0 0 |", "0 0 |1\n", "0 0 #|", "0 0 # abc|", "0|#\n", "0 |#\n",
            "0000000000|0", "0000000000|1 1\n", "0 0000000000|1\n", "0 0|\r\n", "0 |-1\n",
            "#@|\n", "#@|", "#@ |", "#@ |x\n", "#@1|x\n", "#@1|", "#@1 |", "#@1 |#\n", "#@1 |2\n", "#@0000000000|1\n", "#@|@1\n",
            "#@1\n0 0\n|x", "#@1\n0 0\n |", "#@1\n0 0\n#|",
        };
        for (String text : texts) {
            badByte(text);
        }
    }

    private static void lineEnds() {
        fault("86401 1\n", 2, 0);
        fault("#\n1 1\n", 2, 2);
        fault("86400 1\n86400 2\n", 2, 8);
        fault("86400 1\n0 2\n", 2, 8);
        fault("86400 1\n172800  3\n", 3, 16);
        fault("86400 1\n172800  1\n", 3, 16);
        fault("86400 1\n86400 5\n", 2, 8);
        fault("86400 1\n86400 5 x\n", 1, 16);
        fault("86400 1\n86400 5", 1, 15);
        fault("#@1\n#@ 2\n", 5, 7);
        fault("#@1\n0 0\n#@\t1 \nx", 5, 11);
        fault("#@1\n#@ 2", 1, 8);
    }

    private static void behindAll() {
        fault("", 6, 0);
        fault("\n\n", 6, 2);
        fault("#@1\n", 6, 4);
        fault("0 0\n", 7, 4);
        fault("0 0\n#@0\n", 8, 8);
        fault("86400 0\n#@86400\n\n", 8, 17);
        fault("#@86399\n86400 0\n", 8, 16);
        goodForm("#@86401\n86400 0\n", 1);
    }

    private static void faultLeavesTable() {
        ZoneFiles z = new ZoneFiles();
        Kit.due("table", Kit.table(z, "#@999999\n86400 5\n172800 6\n"), 0);
        Kit.due("fault", Kit.table(z, "#@888\n0 7\n86400 8\n172800 9\n259200 10\n259200 11\n"), 2);
        Kit.due("place", z.place(), 37);
        Kit.due("rows", z.told(0), 2);
        Kit.due("expires", z.told(1), 999999L - TO_1970);
        Kit.due("row", z.row(1, 0), 172800L - TO_1970);
        Kit.due("row", z.row(1, 1), 6);
        Kit.dueThrow("row", Kit.INDEX, () -> z.row(2, 0));
        Kit.due("another", Kit.table(z, "#@888\n0 7\n"), 0);
        Kit.due("rows", z.told(0), 1);
        Kit.due("row", z.row(0, 1), 7);
        Kit.due("place stays", z.place(), 37);
    }

    private static String rows(int n) {
        StringBuilder text = new StringBuilder();
        for (int i = 0; i < n; i++) {
            text.append(86400L * i).append(' ').append(i).append('\n');
        }
        return text.toString();
    }

    private static void limits() {
        goodForm(rows(60) + "#@9999999999\n", 60);
        fault(rows(61), 4, rows(60).length());
        fault(rows(60) + "5 60\n", 2, rows(60).length());
        fault(rows(60) + "8640000 99\n", 3, rows(60).length() + 8);
        ZoneFiles z = new ZoneFiles();
        Kit.due("table", Kit.table(z, rows(60) + "#@9999999999\n"), 0);
        Kit.due("last row", z.row(59, 1), 59);
        Kit.dueThrow("row 60", Kit.INDEX, () -> z.row(60, 0));
        Kit.due("greatest numbers", Kit.table(z, "9999936000 9999999999\n#@9999936001\n"), 0);
        Kit.due("atomic", z.atomic(9999936000L - TO_1970), 9999936000L - TO_1970 + 9999999999L);
    }

    /** Counts atomic seconds one by one over rows that go up and down. */
    private static void everySecond() {
        everySecond(3, 4, 3, 2, 3);
        everySecond(0, 1, 2, 1);
    }

    private static void everySecond(int... ahead) {
        ZoneFiles z = new ZoneFiles();
        StringBuilder text = new StringBuilder();
        for (int i = 0; i < ahead.length; i++) {
            text.append(86400L * (i + 1)).append(' ').append(ahead[i]).append('\n');
        }
        text.append("#@").append(86400L * (ahead.length + 1) - 100).append('\n');
        Kit.due("table", Kit.table(z, text.toString()), 0);
        long first = 86400L - TO_1970;
        long expires = 86400L * (ahead.length + 1) - 100 - TO_1970;
        long a = first + ahead[0];
        for (long t = first; t < expires; t++) {
            int day = (int) ((t - first) / 86400);
            boolean lastOfDay = (t - first) % 86400 == 86399 && day + 1 < ahead.length;
            if (lastOfDay && ahead[day + 1] < ahead[day]) {
                Kit.due("left out", z.atomic(t), ZoneFiles.NEVER);
                continue;
            }
            if (z.atomic(t) != a || z.instant(a) != t || z.isLeap(a)) {
                Kit.due("second " + t, z.atomic(t), a);
                Kit.due("instant " + a, z.instant(a), t);
                Kit.due("leap " + a, z.isLeap(a), false);
            }
            a++;
            if (lastOfDay && ahead[day + 1] > ahead[day]) {
                Kit.due("leap " + a, z.isLeap(a), true);
                Kit.due("instant of leap " + a, z.instant(a), t);
                a++;
            }
        }
        Kit.due("instant behind all", z.instant(a), ZoneFiles.NEVER);
        Kit.due("leap behind all", z.isLeap(a), false);
        Kit.due("instant before all", z.instant(first + ahead[0] - 1), ZoneFiles.NEVER);
    }
}
