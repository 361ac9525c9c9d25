import java.lang.reflect.Method;
import java.util.ArrayList;
import java.util.Arrays;
import java.util.List;
import java.util.function.Supplier;

/**
 * Promises 5 to 55: "1 a number that can't be": for each number of each call the last that is still taken and the first
 * that is refused, on either side, with all others at their own ends; and that nothing else is changed by what is refused.
 */
public final class RangesTest {
    /** What is tried for one number of a call: what can be, and what can't. */
    private record Numbers(long[] good, long[] bad) { }

    private final Check check;
    private final Twins twins;
    private final Supplier<LeapArches> state;
    private final String where;

    private RangesTest(Check check, String where, Supplier<LeapArches> state) {
        this.check = check;
        this.twins = new Twins(check);
        this.state = state;
        this.where = where;
    }

    public static void main(String[] args) throws Exception {
        Check c = new Check("RangesTest");
        new RangesTest(c, "a new object", States::bare).all(0, 0, 0, 0);
        new RangesTest(c, "some of everything", States::rich).all(States.RICH_ARCHES, States.RICH_PEOPLE, States.RICH_PLANTS, States.RICH_TAPE);
        new RangesTest(c, "a full one", States::full).all(9, 6, 8, 900);
        c.end();
    }

    private void all(int arches, int people, int plants, int tape) throws Exception {
        Numbers arch = range(0, arches - 1);
        Numbers person = range(0, people - 1);
        trays();
        texts(arch, person, range(0, plants - 1), tape);
        deeds(arch, person, people);
        ahead(arch, person, people);
        sets(arch, person, people);
        doubts(person);
        games(person, people);
        decades();
    }

    // ---- what can be.

    /** With a range that is empty nothing can be. */
    private static Numbers range(int least, int greatest) {
        long[] far = {least - 1L, greatest + 1L, Integer.MIN_VALUE, Integer.MAX_VALUE};
        return least > greatest ? new Numbers(new long[0], new long[] {-1, 0, 1, 5, Integer.MIN_VALUE, Integer.MAX_VALUE})
            : new Numbers(least == greatest ? new long[] {least} : new long[] {least, greatest}, far);
    }

    private static Numbers only(long... good) {
        return new Numbers(good, new long[0]);
    }

    private static Numbers notBelowNought() {
        return new Numbers(new long[] {0, 1, Integer.MAX_VALUE}, new long[] {-1, Integer.MIN_VALUE});
    }

    private void trays() throws Exception {
        Numbers tray = range(0, 3);
        ask(5, "tray", tray, range(0, 3), range(0, 60));
        ask(6, "write", tray, only(0, 60), only(Long.MIN_VALUE, Long.MAX_VALUE));
        ask(7, "read", tray, only(0, 60));
        ask(8, "pour", tray, notBelowNought(), tray, notBelowNought(), notBelowNought());
    }

    private void texts(Numbers arch, Numbers person, Numbers plant, int tape) throws Exception {
        ask(10, "viaduct", range(0, tape));
        ask(11, "decades", range(0, Math.min(300, tape)));
        ask(13, "told", range(0, 9));
        ask(14, "arch", arch, range(0, 3));
        ask(15, "person", person, range(0, 5));
        ask(16, "plant", plant, range(0, 1));
    }

    private void deeds(Numbers arch, Numbers person, int people) throws Exception {
        ask(17, "run", person);
        pairs(18, "rope", people);
        ask(19, "jump", arch);
        ask(20, "home", person);
        ask(21, "day", range(1, 99));
        ask(22, "teach", person, only(0), range(1, 40));
        ask(22, "teach", person, only(1), range(0, 9));
        ask(22, "teach", person, only(2), range(0, 9));
        ask(22, "teach", person, range(0, 2), only(5));
        ask(23, "come", range(1, 40));
        ask(24, "build", range(0, 60), range(0, 9));
        ask(25, "sow", range(1, 30), range(0, 99));
        ask(26, "rule", only(3), range(0, 9));
        ask(26, "rule", only(4), range(0, 5));
        ask(26, "rule", only(5), range(0, 16));
        ask(26, "rule", range(3, 5), only(0, 5));
    }

    private void ahead(Numbers arch, Numbers person, int people) throws Exception {
        ask(27, "strain", person, arch);
        pairs(28, "strainOf", people, arch);
        ask(29, "reach", person);
        ask(30, "reachIn", person, range(0, 40));
        ask(31, "stops", person);
        pairs(32, "stopsBoth", people);
        ask(33, "pays", person);
        ask(34, "span", person);
        ask(35, "spanFrom", person);
        ask(37, "mossIn", arch, range(0, 40));
    }

    private void sets(Numbers arch, Numbers person, int people) throws Exception {
        Numbers set = range(0, (1 << people) - 1);
        ask(39, "cheapest", set);
        ask(40, "mate", new Numbers(people == 0 ? new long[0] : new long[] {(1 << people) - 1}, set.bad()), person);
        for (int i = 0; i < people; i++) {
            ask(40, "mate", new Numbers(new long[] {1 << i}, new long[] {0, ((1 << people) - 1) & ~(1 << i)}), only(i));
        }
        ask(41, "mends", set);
        ask(42, "mendsAt", set, arch);
    }

    private void doubts(Numbers person) throws Exception {
        Numbers tray = range(0, 3);
        Numbers twos = range(0, 20);
        ask(43, "fits", person, tray, twos);
        ask(44, "fitsAt", person, tray, twos, notBelowNought());
        ask(45, "ask", person, tray, twos);
    }

    private void games(Numbers person, int people) throws Exception {
        pairs(46, "game", people, range(0, 4));
        pairs(47, "moveOf", people, range(1, 4));
        ask(48, "garden", range(0, 99));
        ask(49, "gardenSet", range(0, 99));
        ask(50, "chance", person);
        ask(51, "hope", person, range(0, 9));
        ask(52, "copyAt", range(0, 3));
    }

    private void decades() throws Exception {
        ask(53, "live", range(0, 9999));
        ask(54, "lived", range(0, 4));
        ask(55, "mean", new Numbers(new long[] {0, 9980}, new long[] {-1, 9999 + 1, Integer.MIN_VALUE, Integer.MAX_VALUE}), range(1, 20));
        ask(55, "mean", new Numbers(new long[] {9980}, new long[] {9981, 9999}), only(20));
        ask(55, "mean", new Numbers(new long[] {9999}, new long[] {10000}), only(1));
        ask(55, "mean", only(9999), new Numbers(new long[] {1}, new long[] {2}));
    }

    // ---- how it is asked.

    /** "one and himself where two must be", and of two each who is none. */
    private void pairs(int promise, String name, int people, Numbers... more) throws Exception {
        int last = people - 1;
        long[] nobody = range(0, last).bad();
        for (long[] pair : new long[][] {{0, last}, {last, 0}}) {
            long[] notTheOther = Arrays.copyOf(nobody, nobody.length + 1);
            notTheOther[nobody.length] = pair[0];
            long[] theOther = people > 1 ? new long[] {pair[1]} : new long[0];
            ask(promise, name, join(new Numbers(new long[] {pair[0]}, nobody), new Numbers(theOther, notTheOther), more));
        }
    }

    private static Numbers[] join(Numbers first, Numbers second, Numbers[] more) {
        Numbers[] all = new Numbers[more.length + 2];
        all[0] = first;
        all[1] = second;
        System.arraycopy(more, 0, all, 2, more.length);
        return all;
    }

    private void ask(int promise, String name, Numbers... numbers) throws Exception {
        Method call = method(name);
        for (long[] args : ends(numbers, -1)) {
            taken(promise, call, args);
        }
        for (int wrong = 0; wrong < numbers.length; wrong++) {
            for (long[] args : ends(numbers, wrong)) {
                refused(promise, call, args);
            }
        }
    }

    private static Method method(String name) {
        for (Method m : LeapArches.class.getDeclaredMethods()) {
            if (m.getName().equals(name)) {
                return m;
            }
        }
        throw new IllegalArgumentException(name);
    }

    /** All rows of numbers that can be, but that one of them can't; where nothing can be, the others are 0. */
    private static List<long[]> ends(Numbers[] numbers, int wrong) {
        List<long[]> rows = new ArrayList<>();
        rows.add(new long[0]);
        for (int i = 0; i < numbers.length; i++) {
            long[] some = i == wrong ? numbers[i].bad() : numbers[i].good();
            if (some.length == 0 && i != wrong && wrong >= 0) {
                some = new long[] {0};
            }
            List<long[]> longer = new ArrayList<>();
            for (long[] row : rows) {
                for (long v : some) {
                    long[] next = Arrays.copyOf(row, i + 1);
                    next[i] = v;
                    longer.add(next);
                }
            }
            rows = longer;
        }
        return rows;
    }

    private void taken(int promise, Method call, long[] args) {
        LeapArches x = state.get();
        answer(x, call, args);
        check.due("promise " + promise + ", " + where + ": STATUS 1 of " + call.getName() + Arrays.toString(args), x.status() == 1, false);
    }

    private void refused(int promise, Method call, long[] args) {
        long none = call.getReturnType() == boolean.class ? Twins.FALSE : LeapArches.NONE;
        twins.refused(promise, 1, none, where + ": " + call.getName() + Arrays.toString(args), state, x -> answer(x, call, args));
    }

    private static long answer(LeapArches x, Method call, long[] args) {
        Object[] boxed = new Object[args.length];
        Class<?>[] types = call.getParameterTypes();
        for (int i = 0; i < args.length; i++) {
            boxed[i] = types[i] == long.class ? (Object) args[i] : (Object) (int) args[i];
        }
        try {
            Object got = call.invoke(x, boxed);
            return got instanceof Boolean b ? (b ? 1 : 0) : ((Number) got).longValue();
        } catch (ReflectiveOperationException e) {
            throw new IllegalStateException(call.getName() + Arrays.toString(args), e);
        }
    }
}
