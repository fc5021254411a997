import java.util.Arrays;

/**
 * Zones of time out of files and short texts, and a table of leap seconds that leads to atomic
 * time and back. The words in capitals are those of the document.
 */
public final class ZoneFiles {
    public static final int NONE = -2147483648;
    public static final long NEVER = -9223372036854775807L - 1L;

    private static final int MOST_TAPE = 6000;
    private static final int ZONE_COUNT = 4;
    private static final int MOST_TIMES = 200;
    private static final int MOST_TYPES = 40;
    private static final int MOST_CHARS = 200;
    private static final int MOST_LEAPS = 40;
    private static final int MOST_ROWS = 60;

    private static final long LEAST_INSTANT = -1152921504606846975L;
    private static final long GREATEST_INSTANT = 1152921504606846975L;
    private static final long MOST_YEAR = 30000000000L;
    private static final long DAY_SECONDS = 86400L;
    private static final long FROM_1900_TO_1970 = 2208988800L;

    private static final int VERSION_NARROW = 50;
    private static final int VERSION_WIDE = 51;
    private static final int[] MAGIC = {84, 90, 105, 102};
    private static final int HEADER_SIZE = 44;
    private static final int COUNTS_PLACE = 20;

    private static final int UT = 0;
    private static final int STD = 1;
    private static final int LEAP = 2;
    private static final int TIME = 3;
    private static final int TYPE = 4;
    private static final int CHAR = 5;

    private static final int LINE_END = 10;

    // What a ZONE has at an INSTANT: the number of a type, or one of these.
    private static final int STANDARD = -1;
    private static final int SUMMER = -2;
    private static final int NOTHING = -3;

    private final Bytes tape;
    private final Bytes written;
    private final Zone[] zones;
    private Zone spareZone;
    private LeapTable leapTable;
    private LeapTable spareTable;
    private final long[] foundInstants;
    private int foundCount;
    private int faultPlace;

    public ZoneFiles() {
        tape = new Bytes(64);
        written = new Bytes(64);
        zones = new Zone[ZONE_COUNT];
        for (int i = 0; i < ZONE_COUNT; i++) {
            zones[i] = new Zone();
            zones[i].becomeUtc();
        }
        spareZone = new Zone();
        leapTable = new LeapTable();
        spareTable = new LeapTable();
        foundInstants = new long[MOST_TYPES + 2];
        foundCount = 0;
        faultPlace = -1;
    }

    public int feed(int n, long octets) throws IllegalArgumentException {
        if (n < 1 || n > 8) {
            throw new IllegalArgumentException("n is not 1 .. 8");
        }
        if (tape.size + n > MOST_TAPE) {
            throw new IllegalArgumentException("the tape is full");
        }
        for (int i = 0; i < n; i++) {
            tape.put((int) (octets >>> (8 * i)));
        }
        return tape.size;
    }

    public int read(int zone) throws IndexOutOfBoundsException {
        checkZone(zone);
        FileParser parser = new FileParser(tape, spareZone);
        boolean good = parser.readBlocks() && parser.readFooter() && parser.readEnd();
        tape.clear();
        return good ? keepSpareZone(zone) : refuse(parser.fault, parser.place);
    }

    public int rule(int zone, boolean wide) throws IndexOutOfBoundsException {
        checkZone(zone);
        if (tape.size == 0) {
            return refuse(1, 0);
        }
        RuleParser parser = new RuleParser(tape, 0, tape.size, wide, spareZone.rule);
        boolean good = parser.readText();
        tape.clear();
        if (!good) {
            return refuse(15, parser.pos);
        }
        spareZone.becomeRule(wide ? VERSION_WIDE : VERSION_NARROW);
        return keepSpareZone(zone);
    }

    public int table() {
        TableParser parser = new TableParser(tape, spareTable);
        boolean good = parser.readLines() && parser.readEnd();
        tape.clear();
        if (!good) {
            return refuse(parser.fault, parser.place);
        }
        LeapTable old = leapTable;
        leapTable = spareTable;
        spareTable = old;
        return 0;
    }

    public int place() {
        return faultPlace;
    }

    public int zone(int zone, int what) throws IndexOutOfBoundsException {
        checkZone(zone);
        Zone z = zones[zone];
        switch (what) {
            case 0: return z.version;
            case 1: return z.timeCount;
            case 2: return z.typeCount;
            case 3: return z.chars.size;
            case 4: return z.leapCount;
            case 5: return z.stdCount;
            case 6: return z.utCount;
            case 7: return z.rule.text.size;
            default: throw new IndexOutOfBoundsException("what is not 0 .. 7");
        }
    }

    public long time(int zone, int i) throws IndexOutOfBoundsException {
        checkZone(zone);
        checkIndex(i, zones[zone].timeCount);
        return zones[zone].times[i];
    }

    public int typeAt(int zone, int i) throws IndexOutOfBoundsException {
        checkZone(zone);
        checkIndex(i, zones[zone].timeCount);
        return zones[zone].timeTypes[i];
    }

    public int type(int zone, int i, int what) throws IndexOutOfBoundsException {
        checkZone(zone);
        Zone z = zones[zone];
        checkIndex(i, z.typeCount);
        switch (what) {
            case 0: return z.offsets[i];
            case 1: return z.dsts[i];
            case 2: return z.indexes[i];
            case 3: return z.nameSize(i);
            case 4: return i < z.stdCount ? z.stds[i] : 0;
            case 5: return i < z.utCount ? z.uts[i] : 0;
            default: throw new IndexOutOfBoundsException("what is not 0 .. 5");
        }
    }

    public int letter(int zone, int which, int i) throws IndexOutOfBoundsException {
        checkZone(zone);
        checkIndex(which, 2);
        Bytes row = which == 0 ? zones[zone].chars : zones[zone].rule.text;
        checkIndex(i, row.size);
        return row.get(i);
    }

    public long leap(int zone, int i, int what) throws IndexOutOfBoundsException {
        checkZone(zone);
        checkIndex(i, zones[zone].leapCount);
        checkIndex(what, 2);
        return what == 0 ? zones[zone].leapTimes[i] : zones[zone].leapCorrections[i];
    }

    public int at(int zone, long t, int what) throws IndexOutOfBoundsException, IllegalArgumentException {
        checkZone(zone);
        checkIndex(what, 4);
        checkInstant(t);
        Zone z = zones[zone];
        int state = z.stateAt(t);
        if (state == NOTHING) {
            return NONE;
        }
        switch (what) {
            case 0: return z.offsetOf(state);
            case 1: return z.dstOf(state);
            case 2: return z.nameSize(state);
            default: return state >= 0 ? state : -1;
        }
    }

    public int name(int zone, long t, int i) throws IndexOutOfBoundsException, IllegalArgumentException, IllegalStateException {
        checkZone(zone);
        checkInstant(t);
        int state = zones[zone].stateAt(t);
        if (i < 0 || i >= zones[zone].nameSize(state)) {
            throw new IllegalStateException("there is no such byte of a name");
        }
        return zones[zone].nameByte(state, i);
    }

    public long clock(long s, int what) throws IndexOutOfBoundsException, IllegalArgumentException {
        checkIndex(what, 8);
        checkInstant(s);
        long day = Math.floorDiv(s, DAY_SECONDS);
        int second = (int) (s - day * DAY_SECONDS);
        switch (what) {
            case 3: return second / 3600;
            case 4: return second / 60 % 60;
            case 5: return second % 60;
            case 6: return Calendar.weekday(day);
            default: return dateOf(day, what);
        }
    }

    public long seconds(long year, int month, int day, int second) throws IllegalArgumentException {
        if (year < -MOST_YEAR || year > MOST_YEAR) {
            throw new IllegalArgumentException("there is no such year");
        }
        if (month < 1 || month > 12) {
            throw new IllegalArgumentException("there is no such month");
        }
        boolean isLong = Calendar.isLongYear(year);
        if (day < 1 || day > Calendar.monthSize(month, isLong)) {
            throw new IllegalArgumentException("there is no such day");
        }
        if (second < 0 || second >= DAY_SECONDS) {
            throw new IllegalArgumentException("there is no such second");
        }
        long days = Calendar.yearStart(year) + Calendar.monthStart(month, isLong) + day - 1;
        return days * DAY_SECONDS + second;
    }

    public int find(int zone, long s) throws IndexOutOfBoundsException, IllegalArgumentException {
        checkZone(zone);
        checkInstant(s);
        Zone z = zones[zone];
        foundCount = 0;
        for (int guess = SUMMER; guess < z.typeCount; guess++) {
            long t = s - z.offsetOf(guess);
            if (isInstant(t)) {
                int state = z.stateAt(t);
                if (state != NOTHING && t + z.offsetOf(state) == s) {
                    keepFound(t);
                }
            }
        }
        return foundCount;
    }

    public long found(int i) throws IndexOutOfBoundsException {
        checkIndex(i, foundCount);
        return foundInstants[i];
    }

    public long next(int zone, long t) throws IndexOutOfBoundsException, IllegalArgumentException {
        checkZone(zone);
        checkInstant(t);
        return zones[zone].stepAbove(t);
    }

    public long last(int zone, long t) throws IndexOutOfBoundsException, IllegalArgumentException {
        checkZone(zone);
        checkInstant(t);
        return zones[zone].stepBelow(t);
    }

    public int stretch(int zone, int year) throws IndexOutOfBoundsException, IllegalArgumentException, IllegalStateException {
        checkZone(zone);
        if (year < 1970 || year > 2400) {
            throw new IllegalArgumentException("the year is not 1970 .. 2400");
        }
        if (!zones[zone].rule.hasSummer) {
            throw new IllegalStateException("there is no rule with a summer");
        }
        return zones[zone].addEdges(Calendar.yearStart(year + 1L) * DAY_SECONDS);
    }

    public int write(int zone, int version) throws IndexOutOfBoundsException, IllegalArgumentException, IllegalStateException {
        checkZone(zone);
        if (version != 0 && version != VERSION_NARROW && version != VERSION_WIDE) {
            throw new IllegalArgumentException("there is no such version");
        }
        Zone z = zones[zone];
        if (version == 0 && !z.fitsFourBytes()) {
            throw new IllegalStateException("a time needs more than four bytes");
        }
        if (version == VERSION_NARROW && z.rule.needsWide) {
            throw new IllegalStateException("the rule text needs version 51");
        }
        FileWriting.putFile(written, z, version);
        return written.size;
    }

    public int out(int i) throws IndexOutOfBoundsException {
        checkIndex(i, written.size);
        return written.get(i);
    }

    public int again() {
        tape.clear();
        tape.putAll(written, 0, written.size);
        return tape.size;
    }

    public long told(int what) throws IndexOutOfBoundsException, IllegalStateException {
        checkIndex(what, 2);
        if (leapTable.count == 0) {
            throw new IllegalStateException("there is no table");
        }
        return what == 0 ? leapTable.count : leapTable.expires;
    }

    public long row(int i, int what) throws IndexOutOfBoundsException {
        checkIndex(i, leapTable.count);
        checkIndex(what, 2);
        return what == 0 ? leapTable.times[i] : leapTable.aheads[i];
    }

    public long atomic(long t) {
        return leapTable.atomicOf(t);
    }

    public long instant(long atomic) {
        return leapTable.instantOf(atomic);
    }

    public boolean isLeap(long atomic) {
        return leapTable.hasLeapSecond(atomic);
    }

    private static void checkZone(int zone) {
        if (zone < 0 || zone >= ZONE_COUNT) {
            throw new IndexOutOfBoundsException("there is no such zone");
        }
    }

    private static void checkIndex(int i, int size) {
        if (i < 0 || i >= size) {
            throw new IndexOutOfBoundsException("there is no such number");
        }
    }

    private static boolean isInstant(long t) {
        return t >= LEAST_INSTANT && t <= GREATEST_INSTANT;
    }

    private static void checkInstant(long t) {
        if (!isInstant(t)) {
            throw new IllegalArgumentException("this is no instant");
        }
    }

    private static boolean isDigit(int octet) {
        return octet >= '0' && octet <= '9';
    }

    private static boolean isLetter(int octet) {
        return octet >= 'A' && octet <= 'Z' || octet >= 'a' && octet <= 'z';
    }

    private static boolean isNameByte(int octet) {
        return isLetter(octet) || isDigit(octet) || octet == '+' || octet == '-';
    }

    private static long dateOf(long day, int what) {
        long year = Calendar.yearOf(day);
        int dayInYear = (int) (day - Calendar.yearStart(year));
        boolean isLong = Calendar.isLongYear(year);
        int month = Calendar.monthOf(dayInYear, isLong);
        switch (what) {
            case 0: return year;
            case 1: return month;
            case 2: return dayInYear - Calendar.monthStart(month, isLong) + 1;
            default: return dayInYear + 1;
        }
    }

    // A reader fills the spare ZONE, so that a FAULT leaves the old one as it was.
    private int keepSpareZone(int zone) {
        Zone old = zones[zone];
        zones[zone] = spareZone;
        spareZone = old;
        return 0;
    }

    private int refuse(int fault, int place) {
        faultPlace = place;
        return fault;
    }

    private void keepFound(long t) {
        int at = foundCount;
        for (int i = foundCount - 1; i >= 0 && foundInstants[i] >= t; i--) {
            if (foundInstants[i] == t) {
                return;
            }
            at = i;
        }
        if (foundCount >= foundInstants.length) {
            return;
        }
        for (int i = foundCount; i > at; i--) {
            foundInstants[i] = foundInstants[i - 1];
        }
        foundInstants[at] = t;
        foundCount++;
    }

    /** A row of bytes that grows. */
    private static final class Bytes {
        byte[] row;
        int size;

        Bytes(int room) {
            row = new byte[room < 1 ? 1 : room];
            size = 0;
        }

        void clear() {
            size = 0;
        }

        void put(int octet) {
            if (size >= row.length) {
                row = Arrays.copyOf(row, 2 * row.length);
            }
            row[size] = (byte) octet;
            size++;
        }

        void putAll(Bytes other, int from, int to) {
            for (int i = from; i < to; i++) {
                put(other.get(i));
            }
        }

        void putNumber(long number, int width) {
            for (int i = width - 1; i >= 0; i--) {
                put((int) (number >>> (8 * i)));
            }
        }

        void putZeros(int n) {
            for (int i = 0; i < n; i++) {
                put(0);
            }
        }

        /** The byte at a place, -1 where there is none. */
        int get(int i) {
            return i < 0 || i >= size ? -1 : row[i] & 255;
        }

        long unsignedAt(int from) {
            return signedAt(from, 4) & 0xFFFFFFFFL;
        }

        long signedAt(int from, int width) {
            long number = 0L;
            for (int i = 0; i < width; i++) {
                number = number << 8 | get(from + i) & 255L;
            }
            return width == 4 ? (long) (int) number : number;
        }
    }

    /** The Gregorian calendar; days are counted from the first one of 1970 on. */
    private static final class Calendar {
        static final long DAY_0_WEEKDAY = 4L;
        private static final int[] MONTH_STARTS = {0, 31, 59, 90, 120, 151, 181, 212, 243, 273, 304, 334, 365};
        private static final long CYCLE_DAYS = 146097L;
        private static final long YEAR_0_START = -719528L;
        private static final long LONG_YEARS_BEFORE_1970 = 477L;

        static boolean isLongYear(long year) {
            return year % 4L == 0L && (year % 100L != 0L || year % 400L == 0L);
        }

        static long yearStart(long year) {
            long before = year - 1L;
            long longYears = Math.floorDiv(before, 4L) - Math.floorDiv(before, 100L) + Math.floorDiv(before, 400L);
            return 365L * (year - 1970L) + longYears - LONG_YEARS_BEFORE_1970;
        }

        static long yearOf(long day) {
            long days = day - YEAR_0_START;
            long cycle = Math.floorDiv(days, CYCLE_DAYS);
            // A cycle's 97 days of long years are fewer than a year: this is at most one year too late.
            long year = 400L * cycle + (days - cycle * CYCLE_DAYS) / 365L;
            return yearStart(year) > day ? year - 1L : year;
        }

        /** How many days of a year are before a month; 13 is the month behind the last one. */
        static int monthStart(int month, boolean isLong) {
            if (month < 1 || month > MONTH_STARTS.length) {
                return 0;
            }
            return MONTH_STARTS[month - 1] + (isLong && month > 2 ? 1 : 0);
        }

        static int monthSize(int month, boolean isLong) {
            return monthStart(month + 1, isLong) - monthStart(month, isLong);
        }

        static int monthOf(int dayInYear, boolean isLong) {
            int month = 12;
            for (int i = 0; i < 11 && monthStart(month, isLong) > dayInYear; i++) {
                month--;
            }
            return month;
        }

        static int weekday(long day) {
            return (int) Math.floorMod(day + DAY_0_WEEKDAY, 7L);
        }
    }

    /** The beginnings, or the ends, of all SUMMERS of a RULE: a DAY and its TIME. */
    private static final class Edge {
        static final int WITHOUT_29TH = 0;
        static final int COUNTED = 1;
        static final int IN_MONTH = 2;

        int kind;
        int month;
        int week;
        int day;
        int timeOfDay;
        int clockOffset;

        long momentIn(long year) {
            long start = Calendar.yearStart(year);
            return (start + dayIn(year, start)) * DAY_SECONDS + timeOfDay - clockOffset;
        }

        private int dayIn(long year, long start) {
            if (kind == COUNTED) {
                return day;
            }
            boolean isLong = Calendar.isLongYear(year);
            if (kind == WITHOUT_29TH) {
                return isLong && day > 59 ? day : day - 1;
            }
            int first = Calendar.monthStart(month, isLong);
            int days = Calendar.monthStart(month + 1, isLong) - first;
            int firstWeekday = (int) Math.floorMod(start + first + Calendar.DAY_0_WEEKDAY, 7L);
            int inMonth = (day - firstWeekday + 7) % 7 + 7 * (week - 1);
            return first + (inMonth < days ? inMonth : inMonth - 7);
        }

        /** The last year whose moment is not above t. */
        long lastYear(long t) {
            // TIME and offset move a moment by some eight days, so it may lie in a neighbour of its year.
            long year = Calendar.yearOf(Math.floorDiv(t, DAY_SECONDS)) + 1L;
            for (int i = 0; i < 3 && momentIn(year) > t; i++) {
                year--;
            }
            return year;
        }
    }

    /** A RULE TEXT and what it tells; without bytes there is no RULE. */
    private static final class Rule {
        // The calendar comes again after 400 years: two edges a year, and some more for those that cross.
        private static final int CYCLE_EDGES = 810;

        final Bytes text;
        final Edge begin;
        final Edge end;
        boolean hasSummer;
        boolean needsWide;
        int standardOffset;
        int summerOffset;
        int standardNamePlace;
        int standardNameSize;
        int summerNamePlace;
        int summerNameSize;
        private boolean neverChanges;

        Rule() {
            text = new Bytes(32);
            begin = new Edge();
            end = new Edge();
        }

        void clear() {
            text.clear();
            hasSummer = false;
            needsWide = false;
            standardOffset = 0;
            summerOffset = 0;
            standardNamePlace = 0;
            standardNameSize = 0;
            summerNamePlace = 0;
            summerNameSize = 0;
            neverChanges = false;
        }

        boolean isThere() {
            return text.size > 0;
        }

        boolean isSummerAt(long t) {
            return hasSummer && begin.momentIn(begin.lastYear(t)) >= end.momentIn(end.lastYear(t));
        }

        /** The first INSTANT above t at which the SUMMER comes or goes, or NEVER. */
        long changeAbove(long t) {
            if (!hasSummer || neverChanges) {
                return NEVER;
            }
            EdgeWalk walk = new EdgeWalk(this, t);
            boolean before = walk.isSummer();
            for (int i = 0; i < CYCLE_EDGES; i++) {
                walk.goForward();
                if (walk.moment() > GREATEST_INSTANT) {
                    return NEVER;
                }
                if (walk.isSummer() != before) {
                    return walk.moment();
                }
            }
            neverChanges = true;
            return NEVER;
        }

        /** The last INSTANT below t and above a bound at which the SUMMER comes or goes, or NEVER. */
        long changeBelow(long t, long bound) {
            if (!hasSummer || neverChanges) {
                return NEVER;
            }
            EdgeWalk walk = new EdgeWalk(this, t - 1L);
            for (int i = 0; i < CYCLE_EDGES; i++) {
                long moment = walk.moment();
                if (moment <= bound) {
                    return NEVER;
                }
                boolean after = walk.isSummer();
                walk.goBack();
                if (walk.isSummer() != after) {
                    return moment;
                }
            }
            neverChanges = true;
            return NEVER;
        }
    }

    /** Stands at the last beginning and the last end up to a moment, and goes from edge to edge. */
    private static final class EdgeWalk {
        private final Rule rule;
        private long beginYear;
        private long endYear;
        private long begin;
        private long end;

        EdgeWalk(Rule rule, long t) {
            this.rule = rule;
            beginYear = rule.begin.lastYear(t);
            endYear = rule.end.lastYear(t);
            begin = rule.begin.momentIn(beginYear);
            end = rule.end.momentIn(endYear);
        }

        boolean isSummer() {
            return begin >= end;
        }

        long moment() {
            return Math.max(begin, end);
        }

        void goForward() {
            long nextBegin = rule.begin.momentIn(beginYear + 1L);
            long nextEnd = rule.end.momentIn(endYear + 1L);
            if (nextBegin <= nextEnd) {
                beginYear++;
                begin = nextBegin;
            }
            if (nextEnd <= nextBegin) {
                endYear++;
                end = nextEnd;
            }
        }

        void goBack() {
            boolean fromBegin = begin >= end;
            boolean fromEnd = end >= begin;
            if (fromBegin) {
                beginYear--;
                begin = rule.begin.momentIn(beginYear);
            }
            if (fromEnd) {
                endYear--;
                end = rule.end.momentIn(endYear);
            }
        }
    }

    /** Reads a RULE TEXT out of a part of the tape; when it fails, pos is the byte that can't stand there. */
    private static final class RuleParser {
        private static final int LEAST_NAME = 3;
        private static final int MOST_NAME = 10;
        private static final int MOST_HOURS = 24;
        private static final int MOST_WIDE_HOURS = 167;

        int pos;
        private final Bytes tape;
        private final int start;
        private final int end;
        private final boolean wide;
        private final Rule rule;
        private int namePlace;
        private int nameSize;
        private int amount;
        private boolean amountIsWide;

        RuleParser(Bytes tape, int start, int end, boolean wide, Rule rule) {
            this.tape = tape;
            this.start = start;
            this.end = end;
            this.wide = wide;
            this.rule = rule;
            pos = start;
        }

        boolean readText() {
            rule.clear();
            if (pos >= end) {
                return true;
            }
            if (!readStandard()) {
                return false;
            }
            if (pos < end) {
                if (!readSummer() || !readEdge(rule.begin) || !readEdge(rule.end) || pos < end) {
                    return false;
                }
                rule.hasSummer = true;
                rule.begin.clockOffset = rule.standardOffset;
                rule.end.clockOffset = rule.summerOffset;
            }
            rule.text.putAll(tape, start, end);
            return true;
        }

        private boolean readStandard() {
            if (!readName() || !readAmount(true, MOST_HOURS)) {
                return false;
            }
            rule.standardNamePlace = namePlace - start;
            rule.standardNameSize = nameSize;
            rule.standardOffset = -amount;
            return true;
        }

        private boolean readSummer() {
            if (!readName()) {
                return false;
            }
            rule.summerNamePlace = namePlace - start;
            rule.summerNameSize = nameSize;
            rule.summerOffset = rule.standardOffset + 3600;
            if (peek() == ',') {
                return true;
            }
            boolean good = isSign(peek()) || isDigit(peek());
            if (good) {
                good = readAmount(true, MOST_HOURS);
                rule.summerOffset = -amount;
            }
            return good;
        }

        private boolean readEdge(Edge edge) {
            if (!pass(',') || !readDay(edge)) {
                return false;
            }
            edge.timeOfDay = 7200;
            if (peek() != '/') {
                return true;
            }
            pos++;
            if (!readAmount(wide, wide ? MOST_WIDE_HOURS : MOST_HOURS)) {
                return false;
            }
            edge.timeOfDay = amount;
            rule.needsWide = rule.needsWide || amountIsWide;
            return true;
        }

        private boolean readDay(Edge edge) {
            if (peek() == 'M') {
                pos++;
                edge.kind = Edge.IN_MONTH;
                edge.month = readNumber(1, 12);
                if (edge.month < 0 || !pass('.')) {
                    return false;
                }
                edge.week = readNumber(1, 5);
                if (edge.week < 0 || !pass('.')) {
                    return false;
                }
                edge.day = readNumber(0, 6);
            } else if (peek() == 'J') {
                pos++;
                edge.kind = Edge.WITHOUT_29TH;
                edge.day = readNumber(1, 365);
            } else {
                edge.kind = Edge.COUNTED;
                edge.day = readNumber(0, 365);
            }
            return edge.day >= 0;
        }

        private boolean readName() {
            boolean quoted = pass('<');
            namePlace = pos;
            for (int i = 0; i < MOST_NAME && (quoted ? isNameByte(peek()) : isLetter(peek())); i++) {
                pos++;
            }
            nameSize = pos - namePlace;
            if (nameSize < LEAST_NAME) {
                return false;
            }
            return quoted ? pass('>') : !isLetter(peek());
        }

        private boolean readAmount(boolean signs, int mostHours) {
            boolean minus = signs && peek() == '-';
            boolean signed = signs && isSign(peek());
            if (signed) {
                pos++;
            }
            int hours = readNumber(0, mostHours);
            if (hours < 0) {
                return false;
            }
            int minutes = 0;
            int seconds = 0;
            if (pass(':')) {
                minutes = readNumber(0, 59);
                if (minutes >= 0 && pass(':')) {
                    seconds = readNumber(0, 59);
                }
            }
            int sum = 3600 * hours + 60 * minutes + seconds;
            amount = minus ? -sum : sum;
            amountIsWide = signed || hours > MOST_HOURS;
            return minutes >= 0 && seconds >= 0;
        }

        /** A number, or -1 when it can't stand there. */
        private int readNumber(int least, int most) {
            int first = pos;
            int number = 0;
            for (int i = 0; i < 3 && isDigit(peek()); i++) {
                number = 10 * number + peek() - '0';
                pos++;
            }
            if (pos == first || isDigit(peek())) {
                return -1;
            }
            if (number < least || number > most) {
                pos = first;
                return -1;
            }
            return number;
        }

        private boolean pass(int octet) {
            if (peek() != octet) {
                return false;
            }
            pos++;
            return true;
        }

        private int peek() {
            return pos < end ? tape.get(pos) : -1;
        }

        private static boolean isSign(int octet) {
            return octet == '+' || octet == '-';
        }
    }

    /** A ZONE. */
    private static final class Zone {
        int version;
        int timeCount;
        int typeCount;
        int leapCount;
        int stdCount;
        int utCount;
        final long[] times;
        final int[] timeTypes;
        final int[] offsets;
        final int[] dsts;
        final int[] indexes;
        final int[] stds;
        final int[] uts;
        final Bytes chars;
        final long[] leapTimes;
        final int[] leapCorrections;
        final Rule rule;

        Zone() {
            times = new long[MOST_TIMES];
            timeTypes = new int[MOST_TIMES];
            offsets = new int[MOST_TYPES];
            dsts = new int[MOST_TYPES];
            indexes = new int[MOST_TYPES];
            stds = new int[MOST_TYPES];
            uts = new int[MOST_TYPES];
            chars = new Bytes(32);
            leapTimes = new long[MOST_LEAPS];
            leapCorrections = new int[MOST_LEAPS];
            rule = new Rule();
        }

        void becomeUtc() {
            rule.clear();
            rule.text.put('U');
            rule.text.put('T');
            rule.text.put('C');
            rule.text.put('0');
            rule.standardNameSize = 3;
            becomeRule(VERSION_NARROW);
        }

        /** What is there besides the RULE becomes what the RULE tells. */
        void becomeRule(int newVersion) {
            version = newVersion;
            timeCount = 0;
            typeCount = 0;
            leapCount = 0;
            stdCount = 0;
            utCount = 0;
            chars.clear();
            addType(STANDARD, putName(STANDARD));
            if (rule.hasSummer) {
                addType(SUMMER, putName(SUMMER));
            }
        }

        int stateAt(long t) {
            int past = timesUpTo(t);
            if (past < timeCount) {
                return past == 0 ? 0 : timeTypes[past - 1];
            }
            if (rule.isThere()) {
                return rule.isSummerAt(t) ? SUMMER : STANDARD;
            }
            return timeCount == 0 ? 0 : NOTHING;
        }

        private int timesUpTo(long t) {
            int low = 0;
            int high = timeCount;
            for (int i = 0; i < MOST_TIMES && low < high; i++) {
                int middle = (low + high) / 2;
                if (times[middle] <= t) {
                    low = middle + 1;
                } else {
                    high = middle;
                }
            }
            return low;
        }

        int offsetOf(int state) {
            if (state >= 0) {
                return state < typeCount ? offsets[state] : 0;
            }
            return state == SUMMER ? rule.summerOffset : rule.standardOffset;
        }

        int dstOf(int state) {
            if (state >= 0) {
                return state < typeCount ? dsts[state] : 0;
            }
            return state == SUMMER ? 1 : 0;
        }

        int nameSize(int state) {
            if (state == NOTHING || state >= typeCount) {
                return 0;
            }
            if (state < 0) {
                return state == SUMMER ? rule.summerNameSize : rule.standardNameSize;
            }
            int size = 0;
            for (int i = indexes[state]; i < chars.size && chars.get(i) != 0; i++) {
                size++;
            }
            return size;
        }

        int nameByte(int state, int i) {
            if (state >= 0) {
                return state < typeCount ? chars.get(indexes[state] + i) : -1;
            }
            return rule.text.get(i + (state == SUMMER ? rule.summerNamePlace : rule.standardNamePlace));
        }

        boolean isSame(int state, int other) {
            if (state == other) {
                return true;
            }
            if (state == NOTHING || other == NOTHING) {
                return false;
            }
            if (offsetOf(state) != offsetOf(other) || dstOf(state) != dstOf(other)) {
                return false;
            }
            int size = nameSize(state);
            if (size != nameSize(other)) {
                return false;
            }
            for (int i = 0; i < size; i++) {
                if (nameByte(state, i) != nameByte(other, i)) {
                    return false;
                }
            }
            return true;
        }

        long stepAbove(long t) {
            for (int i = timesUpTo(t); i < timeCount; i++) {
                if (beginsOther(i, stateAt(times[i]))) {
                    return times[i];
                }
            }
            return rule.changeAbove(timeCount > 0 ? Math.max(t, times[timeCount - 1]) : t);
        }

        long stepBelow(long t) {
            // The least INSTANT is no STEP: there is none before it.
            long bound = timeCount > 0 ? times[timeCount - 1] : LEAST_INSTANT;
            long change = t > bound ? rule.changeBelow(t, bound) : NEVER;
            if (change != NEVER) {
                return change;
            }
            for (int i = timesUpTo(t - 1L) - 1; i >= 0; i--) {
                if (beginsOther(i, stateAt(times[i]))) {
                    return times[i];
                }
            }
            return NEVER;
        }

        /** Whether time i is a STEP to a state. */
        private boolean beginsOther(int i, int state) {
            if (i < 0 || i >= timeCount || times[i] <= LEAST_INSTANT) {
                return false;
            }
            return !isSame(i == 0 ? 0 : timeTypes[i - 1], state);
        }

        /** The RULE's edges behind the last time and before a limit become times; answers how many there are, or NONE. */
        int addEdges(long limit) {
            int oldTimes = timeCount;
            int oldTypes = typeCount;
            int oldChars = chars.size;
            EdgeWalk walk = new EdgeWalk(rule, timeCount > 0 ? times[timeCount - 1] : -1L);
            for (int i = 0; i <= MOST_TIMES; i++) {
                walk.goForward();
                if (walk.moment() >= limit) {
                    return timeCount;
                }
                if (!addTime(walk.moment(), walk.isSummer() ? SUMMER : STANDARD)) {
                    timeCount = oldTimes;
                    dropTypes(oldTypes);
                    chars.size = oldChars;
                    return NONE;
                }
            }
            return timeCount;
        }

        private boolean addTime(long moment, int state) {
            if (timeCount >= MOST_TIMES) {
                return false;
            }
            int type = 0;
            while (type < typeCount && !isSame(type, state)) {
                type++;
            }
            if (type >= typeCount && !addType(state, placeOfName(state))) {
                return false;
            }
            times[timeCount] = moment;
            timeTypes[timeCount] = type;
            timeCount++;
            return true;
        }

        private boolean addType(int state, int index) {
            if (typeCount >= MOST_TYPES || chars.size > MOST_CHARS) {
                return false;
            }
            offsets[typeCount] = offsetOf(state);
            dsts[typeCount] = dstOf(state);
            indexes[typeCount] = index;
            stds[typeCount] = 0;
            uts[typeCount] = 0;
            typeCount++;
            stdCount = stdCount > 0 ? typeCount : 0;
            utCount = utCount > 0 ? typeCount : 0;
            return true;
        }

        private void dropTypes(int oldTypes) {
            typeCount = oldTypes;
            stdCount = Math.min(stdCount, oldTypes);
            utCount = Math.min(utCount, oldTypes);
        }

        private int placeOfName(int state) {
            int size = nameSize(state);
            for (int from = 0; from + size < chars.size; from++) {
                int same = 0;
                while (same < size && chars.get(from + same) == nameByte(state, same)) {
                    same++;
                }
                if (same == size && chars.get(from + size) == 0) {
                    return from;
                }
            }
            return putName(state);
        }

        private int putName(int state) {
            int index = chars.size;
            int size = nameSize(state);
            for (int i = 0; i < size; i++) {
                chars.put(nameByte(state, i));
            }
            chars.put(0);
            return index;
        }

        boolean fitsFourBytes() {
            for (int i = 0; i < timeCount; i++) {
                if (times[i] != (int) times[i]) {
                    return false;
                }
            }
            for (int i = 0; i < leapCount; i++) {
                if (leapTimes[i] != (int) leapTimes[i]) {
                    return false;
                }
            }
            return true;
        }
    }

    /** Reads the tape as a FILE into a ZONE; tells the first FAULT and its PLACE. */
    private static final class FileParser {
        private static final int LEAST_OFFSET = -89999;
        private static final int MOST_OFFSET = 93599;
        private static final long LEAST_LEAP_DISTANCE = 2419199L;

        int fault;
        int place;
        private final Bytes tape;
        private final Zone zone;
        private final long[] counts;
        private int pos;
        private int textPlace;

        FileParser(Bytes tape, Zone zone) {
            this.tape = tape;
            this.zone = zone;
            counts = new long[6];
        }

        boolean readBlocks() {
            if (!readHeader(true)) {
                return false;
            }
            if (zone.version == 0) {
                return readBlock(4);
            }
            int unread = 5 * count(TIME) + 6 * count(TYPE) + count(CHAR) + 8 * count(LEAP) + count(STD) + count(UT);
            if (!hasMore(unread)) {
                return false;
            }
            pos += unread;
            return readHeader(false) && readBlock(8);
        }

        boolean readFooter() {
            zone.rule.clear();
            if (zone.version == 0) {
                return true;
            }
            int close = pos + 1;
            while (close < tape.size && tape.get(close) != LINE_END) {
                close++;
            }
            if (close >= tape.size) {
                return fail(1, tape.size);
            }
            if (tape.get(pos) != LINE_END) {
                return fail(14, pos);
            }
            textPlace = pos + 1;
            RuleParser parser = new RuleParser(tape, textPlace, close, zone.version == VERSION_WIDE, zone.rule);
            if (!parser.readText()) {
                return fail(15, parser.pos);
            }
            pos = close + 1;
            return true;
        }

        boolean readEnd() {
            if (pos < tape.size) {
                return fail(16, pos);
            }
            int latest = zone.timeCount - 1;
            if (latest < 0 || !zone.rule.isThere()) {
                return true;
            }
            int state = zone.stateAt(zone.times[latest]);
            return zone.isSame(state, zone.timeTypes[latest]) || fail(17, textPlace);
        }

        private boolean fail(int newFault, int newPlace) {
            fault = newFault;
            place = newPlace;
            return false;
        }

        private boolean hasMore(int n) {
            return tape.size - pos >= n || fail(1, tape.size);
        }

        private int count(int which) {
            return which < 0 || which >= counts.length ? 0 : (int) counts[which];
        }

        private boolean readHeader(boolean isFirst) {
            for (int i = 0; i < MAGIC.length; i++) {
                if (pos + i < tape.size && tape.get(pos + i) != MAGIC[i]) {
                    return fail(2, pos + i);
                }
            }
            int version = tape.get(pos + 4);
            if (pos + 4 < tape.size && !isVersion(version, isFirst)) {
                return fail(3, pos + 4);
            }
            if (!hasMore(HEADER_SIZE)) {
                return false;
            }
            zone.version = version;
            for (int i = 0; i < counts.length; i++) {
                counts[i] = tape.unsignedAt(pos + COUNTS_PLACE + 4 * i);
            }
            for (int i = 0; i < counts.length; i++) {
                if (!countFits(i, counts[i])) {
                    return fail(4, pos + COUNTS_PLACE + 4 * i);
                }
            }
            pos += HEADER_SIZE;
            return true;
        }

        private boolean isVersion(int version, boolean isFirst) {
            if (!isFirst) {
                return version == zone.version;
            }
            return version == 0 || version == VERSION_NARROW || version == VERSION_WIDE;
        }

        private boolean countFits(int which, long n) {
            switch (which) {
                case LEAP: return n <= MOST_LEAPS;
                case TIME: return n <= MOST_TIMES;
                case TYPE: return n >= 1L && n <= MOST_TYPES;
                case CHAR: return n >= 1L && n <= MOST_CHARS;
                default: return n == 0L || n == counts[TYPE];
            }
        }

        private boolean readBlock(int width) {
            zone.timeCount = count(TIME);
            zone.typeCount = count(TYPE);
            zone.leapCount = count(LEAP);
            zone.stdCount = count(STD);
            zone.utCount = count(UT);
            if (!readTimes(width) || !readTimeTypes()) {
                return false;
            }
            int typesPlace = pos;
            return readTypes() && readChars(typesPlace) && readLeaps(width) && readStds() && readUts();
        }

        private boolean readTimes(int width) {
            if (!hasMore(width * zone.timeCount)) {
                return false;
            }
            for (int i = 0; i < zone.timeCount; i++) {
                long time = tape.signedAt(pos, width);
                if (!isInstant(time) || i > 0 && time <= zone.times[i - 1]) {
                    return fail(5, pos);
                }
                zone.times[i] = time;
                pos += width;
            }
            return true;
        }

        private boolean readTimeTypes() {
            if (!hasMore(zone.timeCount)) {
                return false;
            }
            for (int i = 0; i < zone.timeCount; i++) {
                int type = tape.get(pos);
                if (type >= zone.typeCount) {
                    return fail(6, pos);
                }
                zone.timeTypes[i] = type;
                pos++;
            }
            return true;
        }

        private boolean readTypes() {
            if (!hasMore(6 * zone.typeCount)) {
                return false;
            }
            for (int i = 0; i < zone.typeCount; i++) {
                int offset = (int) tape.signedAt(pos, 4);
                if (offset < LEAST_OFFSET || offset > MOST_OFFSET) {
                    return fail(7, pos);
                }
                int dst = tape.get(pos + 4);
                if (dst > 1) {
                    return fail(8, pos + 4);
                }
                int index = tape.get(pos + 5);
                if (index >= count(CHAR)) {
                    return fail(9, pos + 5);
                }
                zone.offsets[i] = offset;
                zone.dsts[i] = dst;
                zone.indexes[i] = index;
                pos += 6;
            }
            return true;
        }

        private boolean readChars(int typesPlace) {
            int n = count(CHAR);
            if (!hasMore(n)) {
                return false;
            }
            zone.chars.clear();
            zone.chars.putAll(tape, pos, pos + n);
            pos += n;
            for (int i = 0; i < zone.typeCount; i++) {
                if (!nameFits(i)) {
                    return fail(10, typesPlace + 6 * i + 5);
                }
            }
            return true;
        }

        private boolean nameFits(int type) {
            int size = zone.nameSize(type);
            // -1 stands behind CHAR's last byte: a NAME that runs up to it has no 0.
            if (size < 3 || size > 10 || zone.nameByte(type, size) != 0) {
                return false;
            }
            for (int i = 0; i < size; i++) {
                if (!isNameByte(zone.nameByte(type, i))) {
                    return false;
                }
            }
            return true;
        }

        private boolean readLeaps(int width) {
            if (!hasMore((width + 4) * zone.leapCount)) {
                return false;
            }
            for (int i = 0; i < zone.leapCount; i++) {
                long time = tape.signedAt(pos, width);
                if (time < 0L || i > 0 && time - zone.leapTimes[i - 1] < LEAST_LEAP_DISTANCE) {
                    return fail(11, pos);
                }
                long correction = tape.signedAt(pos + width, 4);
                if (Math.abs(correction - (i > 0 ? zone.leapCorrections[i - 1] : 0L)) != 1L) {
                    return fail(12, pos + width);
                }
                zone.leapTimes[i] = time;
                zone.leapCorrections[i] = (int) correction;
                pos += width + 4;
            }
            return true;
        }

        private boolean readStds() {
            if (!hasMore(zone.stdCount)) {
                return false;
            }
            for (int i = 0; i < zone.stdCount; i++) {
                int std = tape.get(pos);
                if (std > 1) {
                    return fail(13, pos);
                }
                zone.stds[i] = std;
                pos++;
            }
            return true;
        }

        private boolean readUts() {
            if (!hasMore(zone.utCount)) {
                return false;
            }
            for (int i = 0; i < zone.utCount; i++) {
                int ut = tape.get(pos);
                int std = i < zone.stdCount ? zone.stds[i] : 0;
                if (ut > std) {
                    return fail(13, pos);
                }
                zone.uts[i] = ut;
                pos++;
            }
            return true;
        }
    }

    /** Writes a ZONE as a FILE. */
    private static final class FileWriting {
        static void putFile(Bytes into, Zone zone, int version) {
            into.clear();
            if (version == 0) {
                putHeader(into, zone, version);
                putBlock(into, zone, 4);
                return;
            }
            putEmptyFile(into, version);
            putHeader(into, zone, version);
            putBlock(into, zone, 8);
            into.put(LINE_END);
            into.putAll(zone.rule.text, 0, zone.rule.text.size);
            into.put(LINE_END);
        }

        private static void putHeaderStart(Bytes into, int version) {
            for (int i = 0; i < MAGIC.length; i++) {
                into.put(MAGIC[i]);
            }
            into.put(version);
            into.putZeros(15);
        }

        // The least that readers of the old form take: one type and one byte of CHAR.
        private static void putEmptyFile(Bytes into, int version) {
            putHeaderStart(into, version);
            into.putZeros(16);
            into.putNumber(1L, 4);
            into.putNumber(1L, 4);
            into.putZeros(7);
        }

        private static void putHeader(Bytes into, Zone zone, int version) {
            putHeaderStart(into, version);
            into.putNumber(zone.utCount, 4);
            into.putNumber(zone.stdCount, 4);
            into.putNumber(zone.leapCount, 4);
            into.putNumber(zone.timeCount, 4);
            into.putNumber(zone.typeCount, 4);
            into.putNumber(zone.chars.size, 4);
        }

        private static void putBlock(Bytes into, Zone zone, int width) {
            for (int i = 0; i < zone.timeCount; i++) {
                into.putNumber(zone.times[i], width);
            }
            for (int i = 0; i < zone.timeCount; i++) {
                into.put(zone.timeTypes[i]);
            }
            for (int i = 0; i < zone.typeCount; i++) {
                into.putNumber(zone.offsets[i], 4);
                into.put(zone.dsts[i]);
                into.put(zone.indexes[i]);
            }
            into.putAll(zone.chars, 0, zone.chars.size);
            for (int i = 0; i < zone.leapCount; i++) {
                into.putNumber(zone.leapTimes[i], width);
                into.putNumber(zone.leapCorrections[i], 4);
            }
            for (int i = 0; i < zone.stdCount; i++) {
                into.put(zone.stds[i]);
            }
            for (int i = 0; i < zone.utCount; i++) {
                into.put(zone.uts[i]);
            }
        }
    }

    /** A TABLE, its times as INSTANTS; without ROWS there is none. */
    private static final class LeapTable {
        int count;
        final long[] times;
        final long[] aheads;
        long expires;

        LeapTable() {
            times = new long[MOST_ROWS];
            aheads = new long[MOST_ROWS];
        }

        long atomicOf(long t) {
            if (count == 0 || t < times[0] || t >= expires) {
                return NEVER;
            }
            int i = 0;
            while (i + 1 < count && times[i + 1] <= t) {
                i++;
            }
            boolean isLeftOut = i + 1 < count && aheads[i + 1] < aheads[i] && t == times[i + 1] - 1L;
            return isLeftOut ? NEVER : t + aheads[i];
        }

        long instantOf(long atomic) {
            int i = lastRowUpTo(atomic);
            if (i < 0) {
                return NEVER;
            }
            if (isBeforeNextRow(atomic, i)) {
                return times[i + 1] - 1L;
            }
            long t = atomic - aheads[i];
            return t < expires ? t : NEVER;
        }

        boolean hasLeapSecond(long atomic) {
            int i = lastRowUpTo(atomic);
            return i >= 0 && isBeforeNextRow(atomic, i);
        }

        private int lastRowUpTo(long atomic) {
            int i = -1;
            while (i + 1 < count && times[i + 1] + aheads[i + 1] <= atomic) {
                i++;
            }
            return i;
        }

        // A second that row i would carry up to the next ROW's time, but that is before that ROW's own seconds.
        private boolean isBeforeNextRow(long atomic, int i) {
            return i + 1 < count && atomic - aheads[i] >= times[i + 1];
        }
    }

    /** Reads the tape as a TABLE; tells the first FAULT and its PLACE. */
    private static final class TableParser {
        int fault;
        int place;
        private final Bytes tape;
        private final LeapTable table;
        private int pos;
        private boolean hasExpiry;

        TableParser(Bytes tape, LeapTable table) {
            this.tape = tape;
            this.table = table;
        }

        boolean readLines() {
            table.count = 0;
            for (int i = 0; i < MOST_TAPE && pos < tape.size; i++) {
                if (!readLine()) {
                    return false;
                }
            }
            return true;
        }

        boolean readEnd() {
            if (table.count == 0) {
                return fail(6, tape.size);
            }
            if (!hasExpiry) {
                return fail(7, tape.size);
            }
            return table.expires > table.times[table.count - 1] || fail(8, tape.size);
        }

        private boolean fail(int newFault, int newPlace) {
            fault = newFault;
            place = newPlace;
            return false;
        }

        private boolean readLine() {
            int octet = tape.get(pos);
            if (octet == '#') {
                if (tape.get(pos + 1) == '@') {
                    return readExpiry();
                }
                skipToLineEnd();
                return passLineEnd();
            }
            if (isDigit(octet)) {
                return readRow();
            }
            skipBlanks();
            return passLineEnd();
        }

        private boolean readExpiry() {
            pos += 2;
            skipBlanks();
            int numberPlace = pos;
            long number = readNumber();
            if (number < 0L) {
                return false;
            }
            skipBlanks();
            if (!passLineEnd()) {
                return false;
            }
            if (hasExpiry) {
                return fail(5, numberPlace);
            }
            hasExpiry = true;
            table.expires = number - FROM_1900_TO_1970;
            return true;
        }

        private boolean readRow() {
            int timePlace = pos;
            long time = readNumber();
            if (time < 0L) {
                return false;
            }
            if (!isBlank(tape.get(pos))) {
                return fail(1, pos);
            }
            skipBlanks();
            int aheadPlace = pos;
            long ahead = readNumber();
            if (ahead < 0L) {
                return false;
            }
            skipBlanks();
            if (tape.get(pos) == '#') {
                skipToLineEnd();
            }
            return passLineEnd() && addRow(time, timePlace, ahead, aheadPlace);
        }

        private boolean addRow(long time, int timePlace, long ahead, int aheadPlace) {
            int before = table.count - 1;
            long t = time - FROM_1900_TO_1970;
            if (time % DAY_SECONDS != 0L || before >= 0 && t <= table.times[before]) {
                return fail(2, timePlace);
            }
            if (before >= 0 && Math.abs(ahead - table.aheads[before]) != 1L) {
                return fail(3, aheadPlace);
            }
            if (table.count >= MOST_ROWS) {
                return fail(4, timePlace);
            }
            table.times[table.count] = t;
            table.aheads[table.count] = ahead;
            table.count++;
            return true;
        }

        /** A number, or -1 when a byte can't stand there. */
        private long readNumber() {
            int first = pos;
            long number = 0L;
            for (int i = 0; i < 10 && isDigit(tape.get(pos)); i++) {
                number = 10L * number + (tape.get(pos) - '0');
                pos++;
            }
            if (pos == first || isDigit(tape.get(pos))) {
                fail(1, pos);
                return -1L;
            }
            return number;
        }

        private void skipBlanks() {
            while (pos < tape.size && isBlank(tape.get(pos))) {
                pos++;
            }
        }

        private void skipToLineEnd() {
            while (pos < tape.size && tape.get(pos) != LINE_END) {
                pos++;
            }
        }

        private boolean passLineEnd() {
            if (tape.get(pos) != LINE_END) {
                return fail(1, pos);
            }
            pos++;
            return true;
        }

        private static boolean isBlank(int octet) {
            return octet == ' ' || octet == '\t';
        }
    }
}
