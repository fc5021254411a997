import java.lang.reflect.Constructor;
import java.lang.reflect.Field;
import java.lang.reflect.Method;
import java.lang.reflect.Modifier;
import java.util.Set;
import java.util.TreeSet;

/** The public face, and promises 1 (a new object) and 2 (feed). */
public final class NewObjectTest {
    /** What each method answers, takes and throws, the exceptions in the order in which they are named. */
    private static final String[] FACE = {
        "int again()",
        "int at(int,long,int) I A",
        "long atomic(long)",
        "long clock(long,int) I A",
        "int feed(int,long) A",
        "int find(int,long) I A",
        "long found(int) I",
        "long instant(long)",
        "boolean isLeap(long)",
        "long last(int,long) I A",
        "long leap(int,int,int) I",
        "int letter(int,int,int) I",
        "int name(int,long,int) I A S",
        "long next(int,long) I A",
        "int out(int) I",
        "int place()",
        "int read(int) I",
        "long row(int,int) I",
        "int rule(int,boolean) I",
        "long seconds(long,int,int,int) A",
        "int stretch(int,int) I A S",
        "int table()",
        "long time(int,int) I",
        "long told(int) I S",
        "int type(int,int,int) I",
        "int typeAt(int,int) I",
        "int write(int,int) I A S",
        "int zone(int,int) I",
    };

    public static void main(String[] args) {
        face();
        newObject();
        feed();
        Kit.end();
    }

    private static void face() {
        Set<String> methods = new TreeSet<>();
        for (Method m : ZoneFiles.class.getDeclaredMethods()) {
            if (!Modifier.isPrivate(m.getModifiers())) {
                Kit.due(m.getName() + " is public, and of the object", m.getModifiers(), Modifier.PUBLIC);
                methods.add(face(m));
            }
        }
        Kit.due("how many methods", methods.size(), FACE.length);
        for (String due : FACE) {
            Kit.due("there is " + due, methods.contains(due), true);
        }
        int fields = 0;
        for (Field f : ZoneFiles.class.getDeclaredFields()) {
            fields += Modifier.isPrivate(f.getModifiers()) ? 0 : 1;
        }
        Kit.due("the face has just two constants", fields, 2);
        Constructor<?>[] constructors = ZoneFiles.class.getDeclaredConstructors();
        Kit.due("one constructor", constructors.length, 1);
        Kit.due("public and final", ZoneFiles.class.getModifiers() & (Modifier.PUBLIC | Modifier.FINAL), Modifier.PUBLIC | Modifier.FINAL);
        Kit.due("NONE", ZoneFiles.NONE, Integer.MIN_VALUE);
        Kit.due("NEVER", ZoneFiles.NEVER, Long.MIN_VALUE);
    }

    private static String face(Method m) {
        StringBuilder face = new StringBuilder();
        face.append(m.getReturnType().getSimpleName()).append(' ').append(m.getName()).append('(');
        for (Class<?> c : m.getParameterTypes()) {
            face.append(face.charAt(face.length() - 1) == '(' ? "" : ",").append(c.getSimpleName());
        }
        face.append(')');
        for (Class<?> c : m.getExceptionTypes()) {
            face.append(c == Kit.INDEX ? " I" : c == Kit.ARGUMENT ? " A" : c == Kit.STATE ? " S" : " ?");
        }
        return face.toString();
    }

    private static void newObject() {
        ZoneFiles z = new ZoneFiles();
        int[] zone = {50, 0, 1, 4, 0, 0, 0, 4};
        for (int i = 0; i < 4; i++) {
            for (int what = 0; what < zone.length; what++) {
                Kit.due("zone(" + i + ", " + what + ")", z.zone(i, what), zone[what]);
            }
            int[] type = {0, 0, 0, 3, 0, 0};
            for (int what = 0; what < type.length; what++) {
                Kit.due("type(" + i + ", 0, " + what + ")", z.type(i, 0, what), type[what]);
            }
            Kit.due("CHAR", Kit.letters(z, i, 0).equals("UTC\0"), true);
            Kit.due("RULE TEXT", Kit.letters(z, i, 1).equals("UTC0"), true);
            Kit.due("offset", z.at(i, 5L, 0), 0);
            Kit.due("the RULE tells it", z.at(i, 5L, 3), -1);
            Kit.due("name", Kit.nameAt(z, i, 5L).equals("UTC"), true);
            Kit.due("next", z.next(i, Kit.LEAST), ZoneFiles.NEVER);
            Kit.due("last", z.last(i, Kit.GREATEST), ZoneFiles.NEVER);
        }
        Kit.due("place", z.place(), -1);
        Kit.dueThrow("told", Kit.STATE, () -> z.told(0));
        Kit.dueThrow("row", Kit.INDEX, () -> z.row(0, 0));
        Kit.due("atomic", z.atomic(0L), ZoneFiles.NEVER);
        Kit.due("instant", z.instant(0L), ZoneFiles.NEVER);
        Kit.due("isLeap", z.isLeap(0L), false);
        Kit.dueThrow("out", Kit.INDEX, () -> z.out(0));
        Kit.dueThrow("found", Kit.INDEX, () -> z.found(0));
        Kit.due("again", z.again(), 0);
        Kit.due("the tape is empty", z.feed(1, 0L), 1);
    }

    private static void feed() {
        ZoneFiles z = new ZoneFiles();
        Kit.dueThrow("feed 0", Kit.ARGUMENT, () -> z.feed(0, 1L));
        Kit.dueThrow("feed 9", Kit.ARGUMENT, () -> z.feed(9, 1L));
        Kit.dueThrow("feed -1", Kit.ARGUMENT, () -> z.feed(-1, 1L));
        Kit.dueThrow("feed most", Kit.ARGUMENT, () -> z.feed(Integer.MAX_VALUE, 1L));
        Kit.dueThrow("feed least", Kit.ARGUMENT, () -> z.feed(Integer.MIN_VALUE, 1L));
        // The lowest octet first; what is above the n lowest does not count.
        Kit.due("feed 3", z.feed(3, 0x7F_43_54_55L), 3);
        Kit.due("feed 1", z.feed(1, 0x31L), 4);
        Kit.due("rule", z.rule(2, false), 0);
        Kit.due("text", Kit.letters(z, 2, 1).equals("UTC1"), true);
        Kit.due("the tape is used up", z.feed(8, -1L), 8);
        Kit.due("bytes are 0 .. 255", z.read(0), 2);

        ZoneFiles full = new ZoneFiles();
        for (int i = 1; i <= 749; i++) {
            Kit.due("feed", full.feed(8, 0x2020202020202020L), 8 * i);
        }
        Kit.due("feed 7", full.feed(7, 0x20202020202020L), 5999);
        Kit.dueThrow("feed beyond 6000", Kit.ARGUMENT, () -> full.feed(2, 0L));
        Kit.due("feed the last one", full.feed(1, 0x20L), 6000);
        Kit.dueThrow("feed when full", Kit.ARGUMENT, () -> full.feed(1, 0L));
        Kit.due("a tape of blanks ends within a line", full.table(), 1);
        Kit.due("place", full.place(), 6000);
        Kit.due("feed again", full.feed(1, 0L), 1);
    }
}
