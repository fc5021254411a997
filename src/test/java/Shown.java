/** All that an object answers of one thing, as a text: two objects that show the same are the same to their callers. */
final class Shown {
    private Shown() {
    }

    static String zone(ZoneFiles z, int zone) {
        StringBuilder all = new StringBuilder();
        for (int what = 0; what < 8; what++) {
            all.append(z.zone(zone, what)).append(' ');
        }
        int times = z.zone(zone, 1);
        for (int i = 0; i < times; i++) {
            all.append(z.time(zone, i)).append('/').append(z.typeAt(zone, i)).append(' ');
        }
        int types = z.zone(zone, 2);
        for (int i = 0; i < types; i++) {
            for (int what = 0; what < 6; what++) {
                all.append(z.type(zone, i, what)).append(' ');
            }
        }
        int leaps = z.zone(zone, 4);
        for (int i = 0; i < leaps; i++) {
            all.append(z.leap(zone, i, 0)).append('/').append(z.leap(zone, i, 1)).append(' ');
        }
        for (long t : new long[] {-101L, 0L, 99L, 5000000000L}) {
            all.append(z.at(zone, t, 0)).append('/').append(z.next(zone, t)).append('/').append(z.last(zone, t)).append(' ');
        }
        return all.append(Kit.letters(z, zone, 0)).append(' ').append(Kit.letters(z, zone, 1)).toString();
    }

    static String written(ZoneFiles z) {
        StringBuilder all = new StringBuilder();
        for (int i = 0; i < 200; i++) {
            try {
                all.append(z.out(i)).append(' ');
            } catch (IndexOutOfBoundsException e) {
                return all.append("end").toString();
            }
        }
        return all.toString();
    }

    static String found(ZoneFiles z) {
        StringBuilder all = new StringBuilder();
        for (int i = 0; i < 42; i++) {
            try {
                all.append(z.found(i)).append(' ');
            } catch (IndexOutOfBoundsException e) {
                return all.append("end").toString();
            }
        }
        return all.toString();
    }

    static String table(ZoneFiles z) {
        StringBuilder all = new StringBuilder();
        all.append(z.told(0)).append(' ').append(z.told(1)).append(' ');
        for (int i = 0; i < z.told(0); i++) {
            all.append(z.row(i, 0)).append('/').append(z.row(i, 1)).append(' ');
        }
        long leap = z.row(0, 0) + z.row(0, 1);
        return all.append(z.atomic(z.row(0, 0))).append(' ').append(z.instant(leap)).append(' ').append(z.isLeap(leap)).toString();
    }

    static String tape(ZoneFiles z) {
        int fault = z.rule(2, true);
        return fault + " " + z.place() + " " + Kit.letters(z, 2, 1) + " " + z.feed(1, 0L);
    }
}
