import java.util.Set;
import java.util.TreeSet;
import java.util.function.Function;
import java.util.function.Supplier;

/**
 * Part 5: "With another STATUS than 0 a call gives NONE, or false, and changes nothing else": of two objects that are
 * made alike one is asked what is refused; then both tell all of themselves.
 */
final class Twins {
    interface Call {
        /** The answer: a boolean as 1 or 0. */
        long on(LeapArches x);
    }

    static final long FALSE = 0;

    private final Check check;
    // Which STATUS of which promise was seen, as "21 4".
    final Set<String> seen = new TreeSet<>();

    Twins(Check check) {
        this.check = check;
    }

    void refused(int promise, int status, String call, Supplier<LeapArches> state, Call asked) {
        refused(promise, status, LeapArches.NONE, call, state, asked);
    }

    void refusedAsFalse(int promise, int status, String call, Supplier<LeapArches> state, Call asked) {
        refused(promise, status, FALSE, call, state, asked);
    }

    void refused(int promise, int status, long answer, String call, Supplier<LeapArches> state, Call asked) {
        String name = "promise " + promise + ": " + call;
        seen.add(promise + " " + status);
        for (Function<LeapArches, String> tell : Whole.ALL) {
            LeapArches one = state.get();
            check.due(name, asked.on(one), answer);
            check.due("status() behind " + name, one.status(), status);
            same(name, tell.apply(one), tell.apply(state.get()));
        }
    }

    /** "(but viaduct(), decades() with 9 the tape, and what fault() tells)" */
    void refusedText(int promise, String call, Supplier<LeapArches> state, Call asked) {
        String name = "promise " + promise + ": " + call;
        seen.add(promise + " 9");
        for (Function<LeapArches, String> tell : Whole.BUT_TAPE) {
            LeapArches one = state.get();
            check.due(name, asked.on(one), LeapArches.NONE);
            check.due("status() behind " + name, one.status(), 9);
            same(name, withoutFault(tell.apply(one)), withoutFault(tell.apply(state.get())));
        }
        LeapArches one = state.get();
        asked.on(one);
        check.due("the tape is empty behind " + name, one.feed(0, 0, 0, 0, 0), 20);
    }

    private static String withoutFault(String told) {
        return told.replaceFirst("fault -?\\d+ -?\\d+", "");
    }

    private void same(String name, String got, String want) {
        check.due("nothing else is changed by " + name + "\n  got  " + got + "\n  want " + want + "\n ", got.equals(want), true);
    }
}
