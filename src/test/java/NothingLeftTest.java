import java.util.ArrayList;
import java.util.List;

/**
 * Promises 3, 4 and 5: "one that was read takes the place of the one that was there". Whatever was there before, or came
 * to a FAULT, a ZONE and a TABLE show the same as in a new object. Each is put there three times, so that it would be
 * found in all that is kept inside.
 */
public final class NothingLeftTest {
    private static final long DAY = 86400L;

    private interface Put {
        void into(ZoneFiles z);
    }

    public static void main(String[] args) {
        zones();
        tables();
        Kit.end();
    }

    private static Kit.Tape file() {
        Kit.Tape tape = new Kit.Tape();
        tape.version = 51;
        tape.times = new long[] {-100L, 0L, 100L};
        tape.timeTypes = new int[] {1, 2, 0};
        tape.types = new int[][] {{-18000, 0, 0}, {-14400, 1, 4}, {60, 1, 8}};
        tape.chars = "EST\0EDT\0+-9\0";
        tape.leaps = new long[][] {{0L, 1}, {3000000L, 2}};
        tape.stds = new int[] {1, 1, 1};
        tape.uts = new int[] {1, 1, 1};
        tape.rule = "EST5EDT,M3.2.0/-1,M11.1.0";
        return tape;
    }

    private static Kit.Tape withoutMarks() {
        Kit.Tape tape = file();
        tape.stds = new int[0];
        tape.uts = new int[3];
        tape.leaps = new long[0][];
        return tape;
    }

    private static Kit.Tape withoutRule() {
        Kit.Tape tape = file();
        tape.rule = "";
        tape.version = 50;
        tape.uts = new int[0];
        return tape;
    }

    private static Kit.Tape old() {
        Kit.Tape tape = new Kit.Tape();
        tape.version = 0;
        tape.types = new int[][] {{7, 1, 0}};
        return tape;
    }

    private static Kit.Tape stretchable() {
        Kit.Tape tape = new Kit.Tape();
        tape.rule = "ABC0DEF-1,J100,J200";
        tape.stds = new int[] {1};
        return tape;
    }

    private static List<Put> puts() {
        List<Put> puts = new ArrayList<>();
        for (Kit.Tape tape : new Kit.Tape[] {file(), withoutMarks(), withoutRule(), old(), new Kit.Tape(), stretchable()}) {
            puts.add(z -> Kit.due("read", Kit.read(z, 0, tape.bytes()), 0));
        }
        String[] texts = {"EST5EDT,M3.2.0,M11.1.0", "ABC0DEF-1,J100/-1,J200/30", "ABC0DEF,10,300/3", "ABCDEFGHIJ-5:06:07", "UTC0", "ABC1DEF,J100/2,J100/3"};
        for (String text : texts) {
            puts.add(z -> Kit.due("rule", Kit.rule(z, 0, text, true), 0));
        }
        puts.add(z -> {
            Kit.due("read", Kit.read(z, 0, stretchable().bytes()), 0);
            Kit.due("stretch", z.stretch(0, 1972), 6);
        });
        return puts;
    }

    /** What is not taken may leave nothing, either. */
    private static List<Put> faults() {
        List<Put> faults = new ArrayList<>();
        Kit.Tape behind = file();
        behind.behind = "x";
        Kit.Tape last = file();
        last.rule = "EST6EDT,M3.2.0/-1,M11.1.0";
        Kit.Tape late = file();
        late.rule = "EST5EDT,M3.2.0/-1,M11.1.7";
        faults.add(z -> Kit.due("read", Kit.read(z, 0, behind.bytes()), 16));
        faults.add(z -> Kit.due("read", Kit.read(z, 0, last.bytes()), 17));
        faults.add(z -> Kit.due("read", Kit.read(z, 0, late.bytes()), 15));
        faults.add(z -> Kit.due("rule", Kit.rule(z, 0, "ABCDEFGHIJ0DEF,J100/-30,J200/30:60", true), 15));
        return faults;
    }

    private static void questions(ZoneFiles z) {
        z.next(0, 0L);
        z.last(0, 0L);
    }

    private static String written(ZoneFiles z, int version) {
        try {
            return "" + z.write(0, version);
        } catch (IllegalStateException e) {
            return "thrown";
        }
    }

    private static String shown(ZoneFiles z) {
        StringBuilder all = new StringBuilder(Shown.zone(z, 0));
        for (int version : new int[] {0, 50, 51}) {
            all.append(' ').append(written(z, version));
        }
        for (long s : new long[] {0L, 7L, -18100L, 99L * DAY + 8000L, 199L * DAY + 4000L}) {
            all.append(' ').append(z.find(0, s)).append('/').append(Shown.found(z));
        }
        try {
            all.append(' ').append(z.stretch(0, 1971));
        } catch (IllegalStateException e) {
            all.append(" thrown");
        }
        return all.append(' ').append(Shown.zone(z, 0)).toString();
    }

    private static void zones() {
        Kit.sentence(3, "one that was read takes the place of the one that was there");
        List<Put> puts = puts();
        List<Put> befores = new ArrayList<>(puts);
        befores.addAll(faults());
        for (int i = 0; i < puts.size(); i++) {
            ZoneFiles fresh = new ZoneFiles();
            puts.get(i).into(fresh);
            String due = shown(fresh);
            for (int k = 0; k < befores.size(); k++) {
                ZoneFiles z = new ZoneFiles();
                for (int times = 0; times < 3; times++) {
                    befores.get(k).into(z);
                    questions(z);
                }
                puts.get(i).into(z);
                Kit.due("ZONE " + i + " behind " + k, shown(z), due);
            }
        }
        Kit.sentence(3, "or one of UT that is 1 where that of STD is not (or there is none)");
        ZoneFiles z = new ZoneFiles();
        Kit.Tape wrong = file();
        wrong.stds = new int[0];
        for (int times = 0; times < 3; times++) {
            Kit.due("read", Kit.read(z, 0, file().bytes()), 0);
            Kit.due("read, without STD", Kit.read(z, 0, wrong.bytes()), 13);
            Kit.due("place", z.place(), wrong.place(6));
        }
    }

    private static String tableShown(ZoneFiles z) {
        StringBuilder all = new StringBuilder(Shown.table(z));
        for (long day = 0; day < 5; day++) {
            for (long step = -4; step <= 4; step++) {
                long t = day * DAY + step - 2208988800L;
                all.append(' ').append(z.atomic(t)).append('/').append(z.instant(t)).append('/').append(z.isLeap(t));
            }
        }
        return all.toString();
    }

    private static void tables() {
        Kit.sentence(5, "The tape is read as a TABLE");
        String[] good = {"0 2\n#@9999999\n", "0 2\n86400 1\n172800 0\n259200 1\n345600 2\n#@9999999\n", "0 2\n86400 3\n172800 4\n#@9999999\n", "86400 2\n#@86401\n",
            "0 1\n86400 2\n172800 1\n#@345599\n"};
        String[] bad = {"0 2\n86400 3\n172800 2\n#@172800\n", "0 2\n86400 1\n172800 2\n259200 2\n", "#@5\n0 2\n86400 1\n#@5\n", "0 2\n86400 3\n172800 2\n"};
        for (String text : good) {
            ZoneFiles fresh = new ZoneFiles();
            Kit.due("table", Kit.table(fresh, text), 0);
            String due = tableShown(fresh);
            for (int k = 0; k < good.length + bad.length; k++) {
                ZoneFiles z = new ZoneFiles();
                for (int times = 0; times < 3; times++) {
                    int fault = Kit.table(z, k < good.length ? good[k] : bad[k - good.length]);
                    Kit.due("a FAULT of table " + k, fault != 0, k >= good.length);
                }
                Kit.due("table", Kit.table(z, text), 0);
                Kit.due(text + " behind " + k, tableShown(z), due);
            }
        }
    }
}
