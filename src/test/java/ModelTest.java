import java.time.DayOfWeek;
import java.time.LocalDate;
import java.time.temporal.TemporalAdjusters;
import java.util.ArrayList;
import java.util.Arrays;
import java.util.List;
import java.util.Map;
import java.util.Random;
import java.util.TreeMap;

/**
 * Promises 3, 4, 13, 14 and 17 to 24 on zones by chance, against a model that lists all a zone has from 1940 to 2120
 * in order, by the days of java.time.
 */
public final class ModelTest {
    private static final int FIRST_YEAR = 1940;
    private static final int LAST_YEAR = 2120;
    private static final Random RANDOM = new Random(20261115L);

    private record Has(int offset, int dst, String name, int type) {
        boolean same(Has other) {
            return offset == other.offset && dst == other.dst && name.equals(other.name);
        }
    }

    private static final Has NOTHING = new Has(ZoneFiles.NONE, ZoneFiles.NONE, "", ZoneFiles.NONE);

    public static void main(String[] args) {
        for (int i = 0; i < 400; i++) {
            ruleZone();
            fileZone();
        }
        Kit.end();
    }

    private static int pick(int least, int most) {
        return (int) (least + Math.floorMod(RANDOM.nextLong(), (long) most - least + 1L));
    }

    /** A DAY with its TIME, and where the calendar of java.time has it. */
    private static final class Day {
        final int kind = pick(0, 2);
        final int month;
        final int week;
        final int weekday;
        final int number;
        final boolean plain;
        final int time;

        /** Days that are near one another fall together in some years. */
        Day(boolean wide, boolean near) {
            month = near ? 2 : pick(1, 12);
            week = near ? pick(4, 5) : pick(1, 5);
            weekday = near ? 0 : pick(0, 6);
            number = near ? pick(58, 61) : pick(0, 3) == 0 ? pick(360, 365) : pick(1, 365);
            plain = near || pick(0, 3) == 0;
            int most = wide ? 167 * 3600 + 3599 : 24 * 3600 + 3599;
            time = plain ? 7200 : wide ? pick(-most, most) : pick(0, most);
        }

        String text() {
            String day = kind == 0 ? "J" + number : kind == 1 ? "" + number : "M" + month + "." + week + "." + weekday;
            int t = Math.abs(time);
            String amount = String.format("%s%d:%02d:%02d", time < 0 ? "-" : "", t / 3600, t / 60 % 60, t % 60);
            return day + (plain ? "" : "/" + amount);
        }

        long momentIn(int year, int offset) {
            LocalDate date;
            if (kind == 0) {
                LocalDate short1 = LocalDate.ofYearDay(2001, number);
                date = LocalDate.of(year, short1.getMonthValue(), short1.getDayOfMonth());
            } else if (kind == 1) {
                date = LocalDate.of(year, 1, 1).plusDays(number);
            } else {
                DayOfWeek d = weekday == 0 ? DayOfWeek.SUNDAY : DayOfWeek.of(weekday);
                LocalDate first = LocalDate.of(year, month, 1);
                date = first.with(TemporalAdjusters.dayOfWeekInMonth(week, d));
                if (date.getMonthValue() != month) {
                    date = first.with(TemporalAdjusters.lastInMonth(d));
                }
            }
            return date.toEpochDay() * 86400L + time - offset;
        }
    }

    private static final class RuleModel {
        final boolean wide = RANDOM.nextBoolean();
        final Has standard = new Has(60 * pick(-1499, 1499), 0, "STD", -1);
        final Has summer;
        final TreeMap<Long, Has> edges = new TreeMap<>();
        final String text;

        RuleModel() {
            boolean near = pick(0, 3) == 0;
            Day begin = new Day(wide, near);
            Day end = new Day(wide, near);
            boolean told = near || RANDOM.nextBoolean();
            int offset = near ? standard.offset : told ? 60 * pick(-1499, 1499) : standard.offset + 3600;
            summer = new Has(offset, 1, "+01-x", -1);
            text = "STD" + offset(standard) + "<+01-x>" + (told ? offset(summer) : "") + "," + begin.text() + "," + end.text();
            for (int year = FIRST_YEAR; year <= LAST_YEAR; year++) {
                edges.putIfAbsent(end.momentIn(year, summer.offset), standard);
                edges.put(begin.momentIn(year, standard.offset), summer);
            }
        }

        private static String offset(Has has) {
            int minutes = Math.abs(has.offset) / 60;
            return (has.offset > 0 ? "-" : "+") + minutes / 60 + ":" + minutes % 60;
        }
    }

    private static void ruleZone() {
        RuleModel model = new RuleModel();
        ZoneFiles z = new ZoneFiles();
        Kit.due("rule " + model.text, Kit.rule(z, 0, model.text, model.wide), 0);
        checkAll(model.text, z, model.edges);
        int year = pick(1970, 2100);
        checkStretch(model.text, z, model, new ArrayList<>(), year);
    }

    private static void fileZone() {
        RuleModel rule = new RuleModel();
        boolean hasRule = pick(0, 3) > 0;
        Kit.Tape tape = new Kit.Tape();
        tape.version = rule.wide ? 51 : 50;
        tape.rule = hasRule ? rule.text : "";
        tape.chars = "XSTD\0+01-x\0ABC\0";
        List<Has> types = new ArrayList<>();
        int count = pick(1, 6);
        for (int i = 0; i < count; i++) {
            int[] indexes = {1, 5, 11};
            String[] names = {"STD", "+01-x", "ABC"};
            int name = pick(0, 2);
            int[] offsets = {rule.standard.offset, rule.summer.offset, 0};
            types.add(new Has(offsets[pick(0, 2)], pick(0, 1), names[name], i));
        }
        Map<String, Integer> places = Map.of("STD", 1, "+01-x", 5, "ABC", 11);
        int n = pick(1, 12);
        long[] times = new long[n];
        long at = pick(-20000000, 1500000000);
        for (int i = 0; i < n; i++) {
            times[i] = at;
            at += pick(0, 2) == 0 ? pick(1, 3) : pick(0, 1) == 0 ? pick(1, 90000) : pick(1, 40000000);
        }
        int[] timeTypes = new int[n];
        for (int i = 0; i < n; i++) {
            timeTypes[i] = pick(0, types.size() - 1);
        }
        Has told = rule.edges.floorEntry(times[n - 1]).getValue();
        if (hasRule) {
            types.add(new Has(told.offset, told.dst, told.name, types.size()));
            timeTypes[n - 1] = types.size() - 1;
        }
        tape.times = times;
        tape.timeTypes = timeTypes;
        tape.types = types.stream().map(h -> new int[] {h.offset, h.dst, places.get(h.name)}).toArray(int[][]::new);

        TreeMap<Long, Has> edges = new TreeMap<>();
        edges.put(Long.MIN_VALUE, types.get(0));
        for (int i = 0; i < n; i++) {
            edges.put(times[i], i < n - 1 ? types.get(timeTypes[i]) : hasRule ? told : NOTHING);
        }
        if (hasRule) {
            edges.putAll(rule.edges.tailMap(times[n - 1], false));
        }
        ZoneFiles z = Kit.filed(tape);
        checkAll(tape.rule + " " + Arrays.toString(times), z, edges);
        checkRoundTrip(z, tape);
        if (hasRule) {
            List<Long> old = new ArrayList<>();
            for (long time : times) {
                old.add(time);
            }
            checkStretch(tape.rule, z, rule, old, pick(1970, 2110));
        }
    }

    private static Has modelAt(TreeMap<Long, Has> edges, long t) {
        return edges.floorEntry(t).getValue();
    }

    private static void checkAll(String what, ZoneFiles z, TreeMap<Long, Has> edges) {
        List<Long> steps = new ArrayList<>();
        Has before = null;
        for (Map.Entry<Long, Has> edge : edges.entrySet()) {
            if (before != null && !before.same(edge.getValue())) {
                steps.add(edge.getKey());
            }
            before = edge.getValue();
        }
        for (int i = 0; i < 12; i++) {
            long t = pick(-300000000, 2100000000) + 60L;
            checkInstant(what, z, edges, steps, t);
            if (!steps.isEmpty()) {
                long step = steps.get(pick(0, steps.size() - 1));
                if (step > -600000000L && step < 4000000000L) {
                    checkInstant(what, z, edges, steps, step + pick(-1, 1));
                    int shift = before == NOTHING ? 0 : modelAt(edges, step).offset;
                    checkFind(what, z, edges, step + (shift == ZoneFiles.NONE ? 0 : shift) + pick(-4000, 4000));
                }
            }
            checkFind(what, z, edges, t);
        }
    }

    private static void checkInstant(String what, ZoneFiles z, TreeMap<Long, Has> edges, List<Long> steps, long t) {
        Has has = modelAt(edges, t);
        String call = what + " at " + t;
        Kit.due(call + " offset", z.at(0, t, 0), has.offset);
        Kit.due(call + " dst", z.at(0, t, 1), has.dst);
        Kit.due(call + " type", z.at(0, t, 3), has.type);
        Kit.due(call + " name", has == NOTHING || Kit.nameAt(z, 0, t).equals(has.name), true);
        long next = ZoneFiles.NEVER;
        long last = ZoneFiles.NEVER;
        for (long step : steps) {
            next = step > t && next == ZoneFiles.NEVER ? step : next;
            last = step < t ? step : last;
        }
        if (next != ZoneFiles.NEVER) {
            Kit.due(call + " next", z.next(0, t), next);
        } else {
            Kit.due(call + " no next", z.next(0, t) == ZoneFiles.NEVER || z.next(0, t) > 4500000000L, true);
        }
        if (last != ZoneFiles.NEVER) {
            Kit.due(call + " last", z.last(0, t), last);
        } else {
            Kit.due(call + " no last", z.last(0, t) < -900000000L, true);
        }
    }

    private static void checkFind(String what, ZoneFiles z, TreeMap<Long, Has> edges, long s) {
        List<Long> due = new ArrayList<>();
        for (Map.Entry<Long, Has> edge : edges.entrySet()) {
            if (edge.getValue() != NOTHING) {
                long t = s - edge.getValue().offset;
                Long end = edges.higherKey(edge.getKey());
                if (t >= edge.getKey() && (end == null || t < end)) {
                    due.add(t);
                }
            }
        }
        Kit.due(what + " find " + s, z.find(0, s), due.size());
        for (int i = 0; i < due.size(); i++) {
            Kit.due(what + " found " + s, z.found(i), due.get(i));
        }
    }

    private static void checkRoundTrip(ZoneFiles z, Kit.Tape tape) {
        byte[] file = Kit.written(z, 0, 51);
        Kit.due("again", z.again(), file.length);
        Kit.due("read", z.read(3), 0);
        Kit.due("the same file", Arrays.equals(file, Kit.written(z, 3, 51)), true);
    }

    private static void checkStretch(String what, ZoneFiles z, RuleModel rule, List<Long> times, int year) {
        long from = times.isEmpty() ? 0L : times.get(times.size() - 1) + 1L;
        long to = LocalDate.of(year + 1, 1, 1).toEpochDay() * 86400L;
        int types = z.zone(0, 2);
        List<Long> all = new ArrayList<>(times);
        if (from < to) {
            all.addAll(rule.edges.subMap(from, to).keySet());
        }
        String call = what + " stretch to " + year;
        Kit.due(call, z.stretch(0, year), all.size() > 200 ? ZoneFiles.NONE : all.size());
        if (all.size() > 200) {
            Kit.due(call + " leaves the times", z.zone(0, 1), times.size());
            Kit.due(call + " leaves the types", z.zone(0, 2), types);
            return;
        }
        for (int i = 0; i < all.size(); i++) {
            Kit.due(call + " time " + i, z.time(0, i), all.get(i));
            if (i >= times.size()) {
                Has has = rule.edges.get(all.get(i));
                int type = z.typeAt(0, i);
                Kit.due(call + " offset " + i, z.type(0, type, 0), has.offset);
                Kit.due(call + " dst " + i, z.type(0, type, 1), has.dst);
                for (int k = 0; k < has.name.length(); k++) {
                    Kit.due(call + " name " + i, z.letter(0, 0, z.type(0, type, 2) + k), has.name.charAt(k));
                }
            }
        }
        z.write(0, 51);
        z.again();
        Kit.due(call + " read again", z.read(2), 0);
        if (!all.isEmpty()) {
            long end = all.get(all.size() - 1);
            Map.Entry<Long, Has> after = rule.edges.higherEntry(end);
            while (after != null && after.getValue().same(rule.edges.floorEntry(after.getKey() - 1).getValue())) {
                after = rule.edges.higherEntry(after.getKey());
            }
            if (after != null) {
                Kit.due(call + " next behind", z.next(2, end), after.getKey());
            }
        }
    }
}
