/** Promises 5 (table), 6 (place), and 25 to 29 (told, row, atomic, instant, isLeap), at their edges. */
public final class TableEdgesTest {
    private static final long TO_1970 = 2208988800L;
    /** Two ROWS: 1972-01-01 and a LEAP second before 1972-07-01; #@ tells 1973-01-01. */
    private static final String TWO = "2272060800 10\n2287785600 11\n#@2303683200\n";
    private static final long FIRST = 2272060800L - TO_1970;
    private static final long SECOND = 2287785600L - TO_1970;
    private static final long EXPIRES = 2303683200L - TO_1970;

    public static void main(String[] args) {
        lines();
        bytesOfLines();
        numbers();
        endsWithinLines();
        times();
        secondNumbers();
        howManyRows();
        expiryLines();
        behindAll();
        lesserFault();
        faultLeavesTable();
        anotherTable();
        told();
        rows();
        atomic();
        leftOut();
        instant();
        leapSeconds();
        greatNumbers();
        Kit.end();
    }

    private static void taken(String text, int rows) {
        ZoneFiles z = new ZoneFiles();
        Kit.due("table " + text, Kit.table(z, text), 0);
        Kit.due("place of " + text, z.place(), -1);
        Kit.due("ROWS of " + text, z.told(0), rows);
        Kit.due("the tape is used up", z.feed(1, 0L), 1);
    }

    private static void refused(String text, int fault, int place) {
        ZoneFiles z = new ZoneFiles();
        Kit.due("table " + text, Kit.table(z, text), fault);
        Kit.due("place of " + text, z.place(), place);
        Kit.dueThrow("there is no TABLE", Kit.STATE, () -> z.told(0));
        Kit.due("the tape is used up", z.feed(1, 0L), 1);
    }

    /** FAULT 1; a bar tells the byte that can't stand there. */
    private static void badByte(String marked) {
        int place = marked.indexOf('|');
        refused(marked.substring(0, place) + marked.substring(place + 1), 1, place);
    }

    private static void badBytes(String... texts) {
        for (String text : texts) {
            badByte(text);
            badByte(TWO + text);
        }
    }

    private static void lines() {
        Kit.sentence(5, "lines without bytes, or of blanks (32, 9) alone");
        taken("\n" + TWO + "\n\n", 2);
        taken(" \n\t\n \t \t\n" + TWO + " \n", 2);
        badBytes(" |x\n", "\t|0 0\n", " |#\n", "|\r\n", "|\0\n", "|\u000b\n", "|\u00a0\n");
        Kit.sentence(5, "those that begin with #");
        taken("#\n##\n# @\n#x#@1\n#\t\0\u00ff\r\n" + TWO, 2);
        Kit.sentence(5, "those that begin with #@ have blanks, none or more, behind that, a number, and blanks");
        taken("0 0\n#@1\n", 1);
        taken("0 0\n#@ \t1\n", 1);
        taken("0 0\n#@1 \t\n", 1);
        taken("0 0\n#@\t0000000001\t \n", 1);
        badBytes("#@|\n", "#@ \t|\n", "#@|x\n", "#@1|x\n", "#@1 |1\n", "#@1|#\n", "#@1 |# x\n", "#@|-1\n", "#@|+1\n", "#@|@1\n", "#@|#1\n");
        Kit.sentence(5, "ROWS: a number, blanks, a number, blanks, perhaps, and then, perhaps, # and whatever");
        taken("0 0\n#@1\n", 1);
        taken("0\t0\n#@1\n", 1);
        taken("0 \t 0 \t \n#@1\n", 1);
        taken("0 0#\n#@1\n", 1);
        taken("0 0 # 0 0 \0\u00ff#\n#@1\n", 1);
        badBytes("0|\n", "0|#\n", "0 |\n", "0 |#\n", "0|x 0\n", "0 |x\n", "0 |-1\n", "0 |+1\n", "0 0|x\n", "0 0 |x\n", "0 0 |0\n", "|-1 0\n", "|+1 0\n", "0|,0\n");
    }

    private static void bytesOfLines() {
        Kit.sentence(5, "1 a byte that can't stand there");
        for (int octet = 0; octet < 256; octet++) {
            char c = (char) octet;
            boolean digit = c >= '0' && c <= '9';
            boolean blank = c == ' ' || c == '\t';
            if (!digit && !blank && c != '\n' && c != '#' && c != '|') {
                badBytes("|" + c + "\n", "0|" + c + "0\n", "0 |" + c + "\n", "0 0|" + c + "\n", "#@|" + c + "\n", "#@1|" + c + "\n", " |" + c + "\n");
            }
            if (c != '\n' && c != '@') {
                taken("#" + c + "\n" + TWO, 2);
            }
            if (c != '\n') {
                taken("0 0#" + c + "\n#@1\n", 1);
            }
        }
    }

    private static void numbers() {
        Kit.sentence(5, "Numbers: one to ten digits");
        taken("0 0\n#@1\n", 1);
        taken("0000086400 0000000001\n#@0000086401\n", 1);
        taken("0 9999999999\n#@9999999999\n", 1);
        Kit.sentence(5, "an 11th digit");
        badBytes("0000000000|0 0\n", "0000000000|0", "0 0000000000|1\n", "0 9999999999|9\n", "#@0000000000|1\n", "#@ 1234567890|12\n");
    }

    private static void endsWithinLines() {
        Kit.sentence(5, "the tape's size, when it ends within a line");
        String text = "# x\n#@ 99 \n0 1 # y\n \t\n";
        for (int size = 1; size < text.length(); size++) {
            String part = text.substring(0, size);
            if (!part.endsWith("\n")) {
                refused(part, 1, size);
            } else if (part.indexOf("0 1") < 0) {
                refused(part, 6, size);
            } else {
                taken(part, 1);
            }
        }
        badBytes("0|", "0 |", "0 0|", "0 0 |", "0 0#|", "#|", "#@|", "#@1|", "#@1 |", " |");
    }

    private static void times() {
        Kit.sentence(5, "2 a time that is no multiple of 86400");
        taken("0 5\n#@1\n", 1);
        taken("86400 5\n#@86401\n", 1);
        taken("9999936000 5\n#@9999999999\n", 1);
        refused("1 5\n#@99\n", 2, 0);
        refused("86399 5\n#@99999\n", 2, 0);
        refused("86401 5\n#@99999\n", 2, 0);
        refused("43200 5\n#@99999\n", 2, 0);
        refused("9999999999 5\n", 2, 0);
        refused("0 5\n86401 6\n", 2, 4);
        Kit.sentence(5, "or not above the one before");
        taken("86400 5\n172800 6\n#@999999\n", 2);
        refused("86400 5\n86400 6\n", 2, 8);
        refused("86400 5\n0 6\n", 2, 8);
        refused("86400 5\n\n# x\n86400 6\n", 2, 13);
        refused("0 5\n172800 6\n86400 7\n", 2, 13);
        Kit.sentence(5, "At the end of a line");
        refused("1 5", 1, 3);
        refused("1 5 !\n", 1, 4);
        refused("1 5 #!\n", 2, 0);
    }

    private static void secondNumbers() {
        Kit.sentence(5, "3 of another ROW than the first one a second number that is not 1 more or less than the one before");
        for (long first : new long[] {0L, 1L, 10L, 9999999998L, 9999999999L}) {
            for (long step = -2L; step <= 2L; step++) {
                long second = first + step;
                if (second < 0L || second > 9999999999L) {
                    continue;
                }
                String start = "0 " + first + "\n";
                String text = start + "86400 \t" + second + "\n#@99999\n";
                if (step == 1L || step == -1L) {
                    taken(text, 2);
                } else {
                    refused(text, 3, start.length() + 7);
                }
            }
        }
        taken("0 1\n86400 0\n172800 1\n259200 2\n#@999999\n", 4);
        refused("0 1\n86400 0\n172800 2\n", 3, 19);
    }

    private static String rows(int n) {
        StringBuilder text = new StringBuilder();
        for (int i = 0; i < n; i++) {
            text.append(86400L * i).append(' ').append(i).append('\n');
        }
        return text.toString();
    }

    private static void howManyRows() {
        Kit.sentence(5, "4 the 61st ROW");
        taken(rows(1) + "#@9999999999\n", 1);
        taken(rows(59) + "#@9999999999\n", 59);
        taken(rows(60) + "#@9999999999\n", 60);
        taken("#@9999999999\n" + rows(60) + "\n# x\n \n", 60);
        refused(rows(61) + "#@9999999999\n", 4, rows(60).length());
        refused(rows(60) + "# x\n\n5184000 58\n", 4, rows(60).length() + 5);
        refused(rows(60) + "#@9999999999\n5184000 60 #\n", 4, rows(60).length() + 13);
    }

    private static void expiryLines() {
        Kit.sentence(5, "5 a second #@ line");
        refused("#@1\n#@1\n", 5, 6);
        refused("#@1\n0 0\n#@ \t2\n", 5, 12);
        refused("0 0\n#@1\n\n#@1 \nx", 5, 11);
        refused("#@1\n#@1", 1, 7);
        refused("#@1\n#@\n", 1, 6);
    }

    private static void behindAll() {
        Kit.sentence(5, "Behind all (at the tape's size): 6 there is no ROW");
        refused("", 6, 0);
        refused("\n", 6, 1);
        refused("#@1\n", 6, 4);
        refused("# 0 0\n#@1\n \n", 6, 12);
        Kit.sentence(5, "7 no #@ line");
        refused("0 0\n", 7, 4);
        refused("0 0\n# @1\n##@1\n", 7, 14);
        Kit.sentence(5, "8 that line's number is not above the last ROW's time");
        taken("0 0\n#@1\n", 1);
        refused("0 0\n#@0\n", 8, 8);
        taken("86400 0\n#@86401\n", 1);
        refused("86400 0\n#@86400\n", 8, 16);
        refused("86400 0\n#@86399\n", 8, 16);
        refused("#@86400\n0 0\n86400 1\n\n", 8, 21);
        taken("#@86401\n0 0\n86400 1\n", 2);
        refused("9999936000 0\n#@0\n", 8, 17);
    }

    private static void lesserFault() {
        Kit.sentence(5, "Of two at one line's end the lesser one");
        refused("0 5\n1 9\n", 2, 4);
        refused("86400 5\n86400 7\n", 2, 8);
        String full = rows(60);
        refused(full + "1 60\n", 2, full.length());
        refused(full + "5184000 61\n", 3, full.length() + 8);
        refused(full + "1 99\n", 2, full.length());
        refused(full + "5184000 60\n", 4, full.length());
    }

    private static void faultLeavesTable() {
        Kit.sentence(5, "a FAULT leaves ZONE or TABLE as it was (the tape is used up)");
        String[] bad = {"x", "0 7\n1 8\n#@5\n", "0 7\n86400 9\n", rows(61), "0 7\n#@9\n#@8\n", "#@1\n", "0 7\n86400 8\n172800 7\n", "86400 7\n#@5\n"};
        int[] faults = {1, 2, 3, 4, 5, 6, 7, 8};
        for (int i = 0; i < bad.length; i++) {
            ZoneFiles z = new ZoneFiles();
            Kit.due("table", Kit.table(z, TWO), 0);
            Kit.due("table " + bad[i], Kit.table(z, bad[i]), faults[i]);
            Kit.due("ROWS", z.told(0), 2);
            Kit.due("the time of #@", z.told(1), EXPIRES);
            Kit.due("row(0, 0)", z.row(0, 0), FIRST);
            Kit.due("row(0, 1)", z.row(0, 1), 10);
            Kit.due("row(1, 0)", z.row(1, 0), SECOND);
            Kit.due("row(1, 1)", z.row(1, 1), 11);
            Kit.dueThrow("row(2, 0)", Kit.INDEX, () -> z.row(2, 0));
            Kit.due("atomic", z.atomic(SECOND), SECOND + 11);
            Kit.due("isLeap", z.isLeap(SECOND + 10), true);
            Kit.due("the tape is used up", z.feed(1, 0L), 1);
        }
    }

    private static void anotherTable() {
        Kit.sentence(5, "The tape is read as a TABLE");
        ZoneFiles z = new ZoneFiles();
        Kit.due("a full one", Kit.table(z, rows(60) + "#@9999999999\n"), 0);
        Kit.due("a lesser one", Kit.table(z, TWO), 0);
        Kit.due("ROWS", z.told(0), 2);
        Kit.dueThrow("row(2, 0)", Kit.INDEX, () -> z.row(2, 0));
        Kit.due("the time of #@", z.told(1), EXPIRES);
        Kit.due("nothing of the full one", z.atomic(86400L - TO_1970), ZoneFiles.NEVER);
        Kit.due("a full one again", Kit.table(z, "#@9999999999\n" + rows(60)), 0);
        Kit.due("ROWS", z.told(0), 60);
        Kit.due("its last ROW", z.row(59, 1), 59);
        long last = 59L * 86400L - TO_1970;
        Kit.sentence(27, "the number of the last ROW up to them");
        Kit.due("before the last ROW", z.atomic(last - 1), last - 1 + 58);
        Kit.due("at the last ROW", z.atomic(last), last + 59);
        Kit.due("behind the last ROW", z.atomic(9999999998L - TO_1970), 9999999998L - TO_1970 + 59);
        Kit.sentence(28, "The INSTANT of an atomic second");
        Kit.due("behind the last ROW", z.instant(9999999998L - TO_1970 + 59), 9999999998L - TO_1970);
        Kit.sentence(29, "Whether an atomic second is a LEAP second");
        Kit.due("before the last ROW", z.isLeap(last + 58), true);
        Kit.due("behind the last ROW", z.isLeap(9999999998L - TO_1970 + 59), false);
    }

    private static ZoneFiles two() {
        ZoneFiles z = new ZoneFiles();
        Kit.due("table", Kit.table(z, TWO), 0);
        return z;
    }

    private static void told() {
        ZoneFiles z = two();
        Kit.sentence(25, "how many ROWS (what = 0), the time of #@ as an INSTANT (1)");
        Kit.due("told(0)", z.told(0), 2);
        Kit.due("told(1)", z.told(1), EXPIRES);
        ZoneFiles none = new ZoneFiles();
        for (int bad : new int[] {Integer.MIN_VALUE, -1, 2, Integer.MAX_VALUE}) {
            Kit.sentence(25, "IndexOutOfBoundsException: another what");
            Kit.dueThrow("told(" + bad + ")", Kit.INDEX, () -> z.told(bad));
            Kit.sentence(25, "the one named first when several would do");
            Kit.dueThrow("told(" + bad + ") without a TABLE", Kit.INDEX, () -> none.told(bad));
        }
        Kit.sentence(25, "IllegalStateException: there is none");
        Kit.dueThrow("told(0)", Kit.STATE, () -> none.told(0));
        Kit.dueThrow("told(1)", Kit.STATE, () -> none.told(1));
        Kit.due("a FAULT", Kit.table(none, "0 0\n"), 7);
        Kit.dueThrow("told(0) behind a FAULT", Kit.STATE, () -> none.told(0));
        Kit.sentence(25, "the time of #@ as an INSTANT (1)");
        Kit.due("the least table", Kit.table(none, "0 0\n#@1\n"), 0);
        Kit.due("told(1)", none.told(1), 1L - TO_1970);
    }

    private static void rows() {
        Kit.sentence(26, "there is none such (also without a TABLE)");
        ZoneFiles z = two();
        ZoneFiles none = new ZoneFiles();
        for (int i = 0; i < 2; i++) {
            Kit.due("row(" + i + ", 0)", z.row(i, 0), i == 0 ? FIRST : SECOND);
            Kit.due("row(" + i + ", 1)", z.row(i, 1), 10 + i);
        }
        for (int bad : new int[] {Integer.MIN_VALUE, -1, 2, 59, 60, Integer.MAX_VALUE}) {
            Kit.dueThrow("row(" + bad + ", 0)", Kit.INDEX, () -> z.row(bad, 0));
            Kit.dueThrow("row(" + bad + ", 1)", Kit.INDEX, () -> z.row(bad, 1));
            Kit.dueThrow("row(0, " + bad + ")", Kit.INDEX, () -> z.row(0, bad));
            Kit.dueThrow("row(1, " + bad + ")", Kit.INDEX, () -> z.row(1, bad));
            Kit.dueThrow("row(" + bad + ", 0) without a TABLE", Kit.INDEX, () -> none.row(bad, 0));
        }
        Kit.dueThrow("row(0, 0) without a TABLE", Kit.INDEX, () -> none.row(0, 0));
        ZoneFiles full = new ZoneFiles();
        Kit.due("a full TABLE", Kit.table(full, rows(60) + "#@9999999999\n"), 0);
        Kit.due("row(59, 0)", full.row(59, 0), 59L * 86400L - TO_1970);
        Kit.dueThrow("row(60, 0)", Kit.INDEX, () -> full.row(60, 0));
    }

    private static void atomic() {
        ZoneFiles z = two();
        Kit.sentence(27, "From the first ROW's time on");
        Kit.due("one second before", z.atomic(FIRST - 1), ZoneFiles.NEVER);
        Kit.due("the first second", z.atomic(FIRST), FIRST + 10);
        Kit.sentence(27, "atomic seconds are UT's and the number of the last ROW up to them");
        Kit.due("the last second of a ROW", z.atomic(SECOND - 1), SECOND + 9);
        Kit.due("the first second of a ROW", z.atomic(SECOND), SECOND + 11);
        Kit.sentence(27, "before the time that #@ tells");
        Kit.due("the last second", z.atomic(EXPIRES - 1), EXPIRES + 10);
        Kit.due("one second behind", z.atomic(EXPIRES), ZoneFiles.NEVER);
        Kit.sentence(27, "NEVER when the TABLE tells none, or there is no TABLE");
        ZoneFiles none = new ZoneFiles();
        for (long far : new long[] {Long.MIN_VALUE, Kit.LEAST - 1, Kit.LEAST, Kit.GREATEST, Kit.GREATEST + 1, Long.MAX_VALUE}) {
            Kit.due("atomic(" + far + ")", z.atomic(far), ZoneFiles.NEVER);
            Kit.due("atomic(" + far + ") without a TABLE", none.atomic(far), ZoneFiles.NEVER);
        }
        Kit.due("atomic without a TABLE", none.atomic(FIRST), ZoneFiles.NEVER);
        Kit.sentence(27, "before the time that #@ tells");
        Kit.due("a TABLE of one second", Kit.table(none, "86400 3\n#@86401\n"), 0);
        Kit.due("before it", none.atomic(86399L - TO_1970), ZoneFiles.NEVER);
        Kit.due("that second", none.atomic(86400L - TO_1970), 86403L - TO_1970);
        Kit.due("behind it", none.atomic(86401L - TO_1970), ZoneFiles.NEVER);
    }

    /** ROWS on days that follow one another: one up, two down, one up. */
    private static void leftOut() {
        ZoneFiles z = new ZoneFiles();
        Kit.due("table", Kit.table(z, "0 5\n86400 6\n172800 5\n259200 4\n345600 5\n#@432000\n"), 0);
        Kit.sentence(27, "that INSTANT has no atomic second");
        long[] days = {86400L - TO_1970, 172800L - TO_1970, 259200L - TO_1970, 345600L - TO_1970};
        long[] before = {5, 6, 5, 4};
        for (int i = 0; i < 4; i++) {
            boolean down = i == 1 || i == 2;
            long own = before[i] + (down ? -1 : 1);
            Kit.sentence(27, "One with a lesser number has the second before its time left out");
            Kit.due("the second before " + i, z.atomic(days[i] - 1), down ? ZoneFiles.NEVER : days[i] - 1 + before[i]);
            Kit.due("two seconds before " + i, z.atomic(days[i] - 2), days[i] - 2 + before[i]);
            Kit.due("its own second " + i, z.atomic(days[i]), days[i] + own);
            Kit.sentence(28, "The INSTANT of an atomic second");
            Kit.due("the atomic second before " + i, z.instant(days[i] + own - 1), down ? days[i] - 2 : days[i] - 1);
            Kit.due("the atomic second of " + i, z.instant(days[i] + own), days[i]);
            Kit.due("two before " + i, z.instant(days[i] + own - 2), down ? days[i] - 3 : days[i] - 1);
            Kit.sentence(29, "Whether an atomic second is a LEAP second");
            Kit.due("the second before " + i, z.isLeap(days[i] + own - 1), !down);
            Kit.due("two before " + i, z.isLeap(days[i] + own - 2), false);
            Kit.due("its own second " + i, z.isLeap(days[i] + own), false);
        }
    }

    private static void instant() {
        ZoneFiles z = two();
        Kit.sentence(28, "NEVER when the TABLE tells none, or there is no TABLE");
        Kit.due("before the first", z.instant(FIRST + 9), ZoneFiles.NEVER);
        Kit.due("the first", z.instant(FIRST + 10), FIRST);
        Kit.due("the last", z.instant(EXPIRES + 10), EXPIRES - 1);
        Kit.due("behind the last", z.instant(EXPIRES + 11), ZoneFiles.NEVER);
        ZoneFiles none = new ZoneFiles();
        for (long far : new long[] {Long.MIN_VALUE, Kit.LEAST, -1L, Kit.GREATEST, Long.MAX_VALUE}) {
            Kit.due("instant(" + far + ")", z.instant(far), ZoneFiles.NEVER);
            Kit.due("instant(" + far + ") without a TABLE", none.instant(far), ZoneFiles.NEVER);
        }
        Kit.due("without a TABLE", none.instant(FIRST + 10), ZoneFiles.NEVER);
        Kit.sentence(28, "of a LEAP second that of the second before it");
        Kit.due("the second before the LEAP second", z.instant(SECOND + 9), SECOND - 1);
        Kit.due("the LEAP second", z.instant(SECOND + 10), SECOND - 1);
        Kit.due("the second behind it", z.instant(SECOND + 11), SECOND);
    }

    private static void leapSeconds() {
        ZoneFiles z = two();
        Kit.sentence(29, "Whether an atomic second is a LEAP second");
        Kit.due("the second before", z.isLeap(SECOND + 9), false);
        Kit.due("the LEAP second", z.isLeap(SECOND + 10), true);
        Kit.due("the second behind", z.isLeap(SECOND + 11), false);
        Kit.sentence(29, "A ROW with a greater number than the one before it has one atomic second more before its time");
        for (long none : new long[] {FIRST + 8, FIRST + 9, FIRST + 10, EXPIRES + 10, EXPIRES + 11, Long.MIN_VALUE, Long.MAX_VALUE}) {
            Kit.due("the first ROW, and the end, have none", z.isLeap(none), false);
            Kit.due("without a TABLE", new ZoneFiles().isLeap(none), false);
        }
        Kit.due("without a TABLE", new ZoneFiles().isLeap(SECOND + 10), false);
        ZoneFiles last = new ZoneFiles();
        Kit.due("#@ one second behind a ROW", Kit.table(last, "0 0\n86400 1\n#@86401\n"), 0);
        Kit.due("its LEAP second", last.isLeap(86400L - TO_1970), true);
        Kit.due("the INSTANT of that", last.instant(86400L - TO_1970), 86399L - TO_1970);
        Kit.due("the last second", last.instant(86401L - TO_1970), 86400L - TO_1970);
        Kit.due("and no more", last.instant(86402L - TO_1970), ZoneFiles.NEVER);
    }

    private static void greatNumbers() {
        ZoneFiles z = new ZoneFiles();
        Kit.sentence(27, "Numbers: one to ten digits");
        long time = 9999849600L - TO_1970;
        Kit.due("table", Kit.table(z, "9999849600 9999999999\n9999936000 9999999998\n#@9999999999\n"), 0);
        Kit.due("the first second", z.atomic(time), time + 9999999999L);
        Kit.due("the second that is left out", z.atomic(time + 86399L), ZoneFiles.NEVER);
        Kit.due("the last second", z.atomic(9999999998L - TO_1970), 9999999998L - TO_1970 + 9999999998L);
        Kit.due("behind it", z.atomic(9999999999L - TO_1970), ZoneFiles.NEVER);
        Kit.due("back", z.instant(9999999998L - TO_1970 + 9999999998L), 9999999998L - TO_1970);
        Kit.due("the least number", Kit.table(z, "0 0\n#@9999999999\n"), 0);
        Kit.due("the least INSTANT", z.atomic(-TO_1970), -TO_1970);
        Kit.due("before it", z.atomic(-TO_1970 - 1L), ZoneFiles.NEVER);
        Kit.due("before it", z.instant(-TO_1970 - 1L), ZoneFiles.NEVER);
        Kit.due("1970", z.instant(0L), 0L);
    }
}
