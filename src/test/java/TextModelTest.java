import java.util.Random;
import java.util.regex.Matcher;
import java.util.regex.Pattern;

/**
 * Promises 4 (rule), 5 (table) and 6 (place): texts by chance, against patterns of java.util.regex. The first byte that
 * can't stand there is the one behind the longest part with which some good text begins.
 */
public final class TextModelTest {
    private static final Random RANDOM = new Random(15L);
    private static final Pattern[] EXACT = {exact(false), exact(true)};
    private static final Pattern[] ANY = {anyNumbers(false), anyNumbers(true)};
    private static final Pattern LINES = Pattern.compile(
            "([ \t]*\n|#([^@\n][^\n]*)?\n|#@[ \t]*[0-9]{1,10}[ \t]*\n|[0-9]{1,10}[ \t]+[0-9]{1,10}[ \t]*(#[^\n]*)?\n)*");

    public static void main(String[] args) {
        ruleTexts();
        tables();
        Kit.end();
    }

    /** How many bytes of a text some good text begins with; more than its size when it is good itself. */
    private static int goodPart(Pattern pattern, String text) {
        Matcher all = pattern.matcher(text);
        if (all.matches()) {
            return text.length() + 1;
        }
        for (int size = text.length(); size > 0; size--) {
            Matcher m = pattern.matcher(text.substring(0, size));
            if (m.matches() || m.hitEnd()) {
                return size;
            }
        }
        return 0;
    }

    private static Pattern ruleText(boolean wide, String hours, String wideHours, String sixty, String[] day) {
        String name = "([A-Za-z]{3,10}|<[A-Za-z0-9+-]{3,10}>)";
        String rest = "(:" + sixty + "(:" + sixty + ")?)?";
        String offset = "[+-]?" + hours + rest;
        String time = wide ? "[+-]?" + wideHours + rest : hours + rest;
        String date = "(J" + day[0] + "|" + day[1] + "|M" + day[2] + "\\." + day[3] + "\\." + day[4] + ")(/" + time + ")?";
        return Pattern.compile(name + offset + "(" + name + "(" + offset + ")?," + date + "," + date + ")?", Pattern.DOTALL);
    }

    /** All numbers that may be, with no, one or two zeros ahead. */
    private static String numbers(int least, int most) {
        StringBuilder all = new StringBuilder("(");
        for (int i = least; i <= most; i++) {
            String digits = Integer.toString(i);
            all.append(i > least ? "|" : "").append("0{0,").append(3 - digits.length()).append("}").append(digits);
        }
        return all.append(")").toString();
    }

    private static Pattern exact(boolean wide) {
        String[] day = {numbers(1, 365), numbers(0, 365), numbers(1, 12), numbers(1, 5), numbers(0, 6)};
        return ruleText(wide, numbers(0, 24), numbers(0, 167), numbers(0, 59), day);
    }

    private static Pattern anyNumbers(boolean wide) {
        String any = "[0-9]{1,3}";
        return ruleText(wide, any, any, any, new String[] {any, any, any, any, any});
    }

    private static boolean isDigit(String text, int place) {
        return place >= 0 && place < text.length() && text.charAt(place) >= '0' && text.charAt(place) <= '9';
    }

    private static boolean mayEndThere(Pattern pattern, String part) {
        if (pattern.matcher(part).matches()) {
            return true;
        }
        for (char c : ":,./<>+-A".toCharArray()) {
            if (goodPart(pattern, part + c) > part.length()) {
                return true;
            }
        }
        return false;
    }

    /** The PLACE that is due, -1 for a good text: a number that may not be is told at its first digit. */
    private static int rulePlace(Pattern exact, Pattern any, String text) {
        int place = goodPart(exact, text);
        if (place > text.length()) {
            return -1;
        }
        int loose = Math.min(goodPart(any, text), text.length());
        int first = place;
        while (isDigit(text, first - 1)) {
            first--;
        }
        boolean tooGreat = isDigit(text, place) && loose > place;
        boolean tooSmall = !isDigit(text, place) && first < place && !mayEndThere(exact, text.substring(0, place));
        if (!tooGreat && !tooSmall) {
            return place;
        }
        return isDigit(text, first + 3) && isDigit(text, first + 2) && isDigit(text, first + 1) ? first + 3 : first;
    }

    private static String pick(String... texts) {
        return texts[RANDOM.nextInt(texts.length)];
    }

    private static String anyAmount() {
        return pick("", "", "+", "-") + pick("0", "5", "24", "25", "024", "167", "168", "0000")
                + pick("", "", ":0", ":59", ":60", ":030") + pick("", "", ":59", ":60", ":0");
    }

    private static String anyDay() {
        return pick("J1", "J365", "0", "365", "M3.2.0", "M12.5.6", "J0", "366", "M0.1.1", "M1.6.1", "M1.1.7") + pick("", "/" + anyAmount());
    }

    private static String anyRule() {
        String text = pick("EST", "<+09>", "ABCDEFGHIJ", "<A-1>") + anyAmount();
        return text + pick("", pick("EDT", "<-10>", "ABCDEFGHIJ") + pick("", anyAmount()) + "," + anyDay() + "," + anyDay());
    }

    private static String changed(String text, String octets) {
        StringBuilder changed = new StringBuilder(text);
        int changes = RANDOM.nextInt(3);
        for (int i = 0; i < changes && changed.length() > 0; i++) {
            int at = RANDOM.nextInt(changed.length());
            char c = octets.charAt(RANDOM.nextInt(octets.length()));
            switch (RANDOM.nextInt(4)) {
                case 0: changed.setCharAt(at, c); break;
                case 1: changed.insert(at, c); break;
                case 2: changed.deleteCharAt(at); break;
                default: changed.setLength(at); break;
            }
        }
        return changed.toString();
    }

    private static void ruleTexts() {
        Kit.sentence(4, "15 the first byte of a RULE TEXT that can't stand there");
        int[] seen = new int[2];
        for (int i = 0; i < 20000; i++) {
            boolean wide = i % 2 == 1;
            String text = changed(anyRule(), "ABz0159<>+-:,./JM \n");
            int due = EXACT[i % 2].matcher(text).matches() ? -1 : rulePlace(EXACT[i % 2], ANY[i % 2], text);
            ZoneFiles z = new ZoneFiles();
            Kit.due("rule " + text + " " + wide, Kit.rule(z, 0, text, wide), text.isEmpty() ? 1 : due < 0 ? 0 : 15);
            Kit.due("place of " + text + " " + wide, z.place(), due);
            seen[due < 0 ? 0 : 1]++;
        }
        Kit.due("good texts and bad ones", seen[0] > 1000 && seen[1] > 1000, true);
    }

    private static String anyLine(int row) {
        String row1 = 86400L * row + " " + (row + RANDOM.nextInt(12) / 11) + pick("", " ", "\t#", "# 1 x");
        return pick(row1, row1, row1, row1, row1, "", " \t", "#", "# x 1", "#@ 9999999999 ", "0 0", "86401 1", "#@0") + "\n";
    }

    private static String anyTable() {
        StringBuilder text = new StringBuilder(pick("", "#@ 777777777\n", "#@0345600\n"));
        int lines = RANDOM.nextInt(7);
        for (int i = 0; i < lines; i++) {
            text.append(anyLine(i));
        }
        return text + pick("", "#@ 777777777\n", "#@\t345600\t\n");
    }

    private static void tables() {
        Kit.sentence(5, "FAULTS, byte after byte");
        int[] seen = new int[9];
        for (int i = 0; i < 20000; i++) {
            String text = changed(anyTable(), "0189# \t@\n");
            int[] due = tableFault(text);
            ZoneFiles z = new ZoneFiles();
            Kit.due("table " + text, Kit.table(z, text), due[0]);
            Kit.due("place of " + text, z.place(), due[1]);
            seen[due[0]]++;
        }
        for (int fault = 0; fault < 9; fault++) {
            // The 61st ROW does not come by chance.
            Kit.due("fault " + fault + " came to pass", seen[fault] > 0, fault != 4);
        }
    }

    /** The FAULT and its PLACE that are due. */
    private static int[] tableFault(String text) {
        int good = Math.min(goodPart(LINES, text), text.length());
        long before = -1L;
        long ahead = 0L;
        long expires = -1L;
        int from = 0;
        for (int end = text.indexOf('\n'); end >= 0 && end < good; end = text.indexOf('\n', from)) {
            String line = text.substring(from, end);
            if (line.startsWith("#@")) {
                int place = from + 2 + line.length() - 2 - line.substring(2).stripLeading().length();
                if (expires >= 0L) {
                    return new int[] {5, place};
                }
                expires = Long.parseLong(line.substring(2).strip());
            } else if (isDigit(line, 0)) {
                String[] numbers = line.split("[ \t#]+");
                long time = Long.parseLong(numbers[0]);
                if (time % 86400L != 0L || time <= before) {
                    return new int[] {2, from};
                }
                long second = Long.parseLong(numbers[1]);
                if (before >= 0L && second != ahead + 1L && second != ahead - 1L) {
                    String rest = line.substring(numbers[0].length());
                    return new int[] {3, from + line.length() - rest.stripLeading().length()};
                }
                before = time;
                ahead = second;
            }
            from = end + 1;
        }
        if (from < text.length()) {
            return new int[] {1, good};
        }
        return before < 0L ? new int[] {6, from} : expires < 0L ? new int[] {7, from} : expires <= before ? new int[] {8, from} : new int[] {0, -1};
    }
}
