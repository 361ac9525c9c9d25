import java.util.List;
import java.util.function.Function;

/** All that an object can tell of itself, in five ways; all but the first one change it. */
final class Whole {
    // Each on an object of its own, so that none comes near its 512th call.
    static final List<Function<LeapArches, String>> BUT_TAPE = List.of(Whole::seen, Whole::sorts, Whole::lives, Whole::marks);
    static final List<Function<LeapArches, String>> ALL = List.of(Whole::seen, Whole::sorts, Whole::lives, Whole::marks, Whole::tape);

    private Whole() { }

    static String seen(LeapArches x) {
        return "FRACTION " + x.top() + "/" + x.bottom() + " fault " + x.fault(0) + " " + x.fault(1) + " " + x.fault(2)
            + viaduct(x) + trays(x) + lived(x);
    }

    static String viaduct(LeapArches x) {
        StringBuilder s = new StringBuilder(" told");
        for (int what = 0; what < 10; what++) {
            s.append(' ').append(x.told(what));
        }
        int arches = x.told(0);
        int people = x.told(1);
        int plants = x.told(2);
        rows(s, " arch", arches, 4, (i, what) -> x.arch(i, what));
        rows(s, " person", people, 6, (i, what) -> x.person(i, what));
        rows(s, " plant", plants, 2, (i, what) -> x.plant(i, what));
        return s.toString();
    }

    private interface Asked {
        int of(int which, int what);
    }

    private static void rows(StringBuilder s, String name, int many, int kinds, Asked asked) {
        for (int i = 0; i < many; i++) {
            s.append(name);
            for (int what = 0; what < kinds; what++) {
                s.append(' ').append(asked.of(i, what));
            }
        }
    }

    static String trays(LeapArches x) {
        StringBuilder s = new StringBuilder();
        for (int tray = 0; tray < 4; tray++) {
            s.append(" tray");
            long v = x.read(tray, 0);
            for (int place = 1; x.status() == 0; place++) {
                s.append(' ').append(v);
                v = x.read(tray, place);
            }
            s.append(" status ").append(x.status());
        }
        return s.toString();
    }

    private static String lived(LeapArches x) {
        StringBuilder s = new StringBuilder(" lived");
        for (int what = 0; what < 5; what++) {
            s.append(' ').append(x.lived(what));
        }
        return s.append(" status ").append(x.status()).toString();
    }

    /** By what is left of a long number that is written. */
    static String sorts(LeapArches x) {
        StringBuilder s = new StringBuilder();
        for (int tray = 0; tray < 4; tray++) {
            s.append(' ').append(x.write(tray, 0, 0x123456789abcdefL)).append(' ').append(x.read(tray, 0));
        }
        return s.toString();
    }

    static String lives(LeapArches x) {
        return x.live(77) + " status " + x.status() + lived(x) + viaduct(x);
    }

    /** As a VIADUCT, behind some blanks more. */
    static String tape(LeapArches x) {
        int fed = x.feed(0x20202020, 0x20202020, 0x20202020, 0x20202020, 0x20202020);
        int n = fed == LeapArches.NONE ? 900 : fed;
        return fed + " viaduct " + x.viaduct(n) + " fault " + x.fault(0) + " " + x.fault(1) + viaduct(x);
    }

    static String marks(LeapArches x) {
        StringBuilder s = new StringBuilder();
        int left = x.undo();
        for (int i = 0; i < 4 && left != LeapArches.NONE; i++) {
            s.append(" left ").append(left).append(viaduct(x)).append(" lives ").append(x.mean(5, 3)).append(x.top()).append('/').append(x.bottom());
            left = x.undo();
        }
        return s.toString();
    }
}
