import java.nio.charset.StandardCharsets;
import java.nio.file.Files;
import java.nio.file.Path;
import java.util.ArrayList;
import java.util.List;
import java.util.Set;
import java.util.TreeSet;
import java.util.function.Supplier;
import java.util.regex.Matcher;
import java.util.regex.Pattern;

/**
 * Promises 5 to 57: every STATUS that stands in the brackets of a promise, and that nothing else is changed then.
 * RangesTest has those of STATUS 1, number by number; here is one of each.
 */
public final class RefusedTest {
    private static final Path DOCUMENT = Path.of("../shared/DOC.md");
    // PEOPLE whom no ARCH bears, but the last one.
    private static final String HEAVY = "fog 5;arch holds 60;arch holds 3;person a weight 40 doubt 9;person b weight 39 doubt 9;person d weight 1 doubt 0 at 1;";

    public static void main(String[] args) throws Exception {
        Check c = new Check("RefusedTest");
        Twins t = new Twins(c);
        numbersThatCannotBe(t);
        missingTrays(t);
        placesAndTooFewNumbers(t);
        oneTooMany(t);
        numbersInTrays(t);
        noneSuchOnTheViaduct(t);
        noneSuchElse(t);
        whatCannotBe(t);
        unlikeSorts(t);
        texts(t);
        everyStatusOfTheDocument(c, t.seen);
        c.end();
    }

    private static Supplier<LeapArches> on(String text) {
        return () -> {
            LeapArches x = Check.withViaduct(text);
            Check.decades(x, "any;day 1;");
            x.chance(0);
            return x;
        };
    }

    private static long bit(boolean answer) {
        return answer ? 1 : Twins.FALSE;
    }

    /** Status 1: "no such TRAY, ARCH, PERSON, PLANT; a set with what there is none of; one and himself where two must be". */
    private static void numbersThatCannotBe(Twins t) {
        numbersOfTraysAndTexts(t);
        numbersOfDeeds(t);
        numbersAhead(t);
        Supplier<LeapArches> rich = States::rich;
        t.refused(39, 1, "cheapest(8)", rich, x -> x.cheapest(8));
        t.refused(40, 1, "mate(8, 0)", rich, x -> x.mate(8, 0));
        t.refused(40, 1, "mate(3, 2), none of the set", rich, x -> x.mate(3, 2));
        t.refused(40, 1, "mate(0, 0), none of the empty set", rich, x -> x.mate(0, 0));
        t.refused(41, 1, "mends(8)", rich, x -> x.mends(8));
        t.refused(42, 1, "mendsAt(1, 4)", rich, x -> x.mendsAt(1, 4));
        t.refused(43, 1, "fits(3, 2, 0)", rich, x -> x.fits(3, 2, 0));
        t.refused(44, 1, "fitsAt(0, 2, 0, -1)", rich, x -> x.fitsAt(0, 2, 0, -1));
        t.refused(45, 1, "ask(0, 2, 21)", rich, x -> x.ask(0, 2, 21));
        t.refused(46, 1, "game(1, 1, 2)", rich, x -> x.game(1, 1, 2));
        t.refused(47, 1, "moveOf(0, 1, 0)", rich, x -> x.moveOf(0, 1, 0));
        t.refused(48, 1, "garden(100)", rich, x -> x.garden(100));
        t.refused(49, 1, "gardenSet(-1)", rich, x -> x.gardenSet(-1));
        t.refusedAsFalse(50, 1, "chance(3)", rich, x -> bit(x.chance(3)));
        t.refusedAsFalse(51, 1, "hope(0, 10)", rich, x -> bit(x.hope(0, 10)));
        t.refused(52, 1, "copyAt(4)", rich, x -> x.copyAt(4));
        t.refused(53, 1, "live(10000)", rich, x -> x.live(10000));
        t.refused(54, 1, "lived(5)", rich, x -> x.lived(5));
        t.refusedAsFalse(55, 1, "mean(9981, 20), the last above 9,999", rich, x -> bit(x.mean(9981, 20)));
    }

    private static void numbersOfTraysAndTexts(Twins t) {
        Supplier<LeapArches> rich = States::rich;
        t.refusedAsFalse(5, 1, "tray(0, 4, 1)", rich, x -> bit(x.tray(0, 4, 1)));
        t.refusedAsFalse(6, 1, "write(4, 0, 9)", rich, x -> bit(x.write(4, 0, 9)));
        t.refused(7, 1, "read(-1, 0)", rich, x -> x.read(-1, 0));
        t.refusedAsFalse(8, 1, "pour(2, 0, 1, -1, 1)", rich, x -> bit(x.pour(2, 0, 1, -1, 1)));
        t.refused(10, 1, "viaduct(-1)", rich, x -> x.viaduct(-1));
        t.refused(10, 1, "viaduct(41), more than the tape has", rich, x -> x.viaduct(States.RICH_TAPE + 1));
        t.refused(11, 1, "decades(41), more than the tape has", rich, x -> x.decades(States.RICH_TAPE + 1));
        t.refused(11, 1, "decades(301)", States::full, x -> x.decades(301));
        t.refused(13, 1, "told(10)", rich, x -> x.told(10));
        t.refused(14, 1, "arch(4, 0)", rich, x -> x.arch(4, 0));
        t.refused(15, 1, "person(0, 6)", rich, x -> x.person(0, 6));
        t.refused(16, 1, "plant(2, 0)", rich, x -> x.plant(2, 0));
    }

    private static void numbersOfDeeds(Twins t) {
        Supplier<LeapArches> rich = States::rich;
        t.refused(17, 1, "run(3)", rich, x -> x.run(3));
        t.refused(18, 1, "rope(0, 0), one and himself", rich, x -> x.rope(0, 0));
        t.refused(19, 1, "jump(4)", rich, x -> x.jump(4));
        t.refused(20, 1, "home(-1)", rich, x -> x.home(-1));
        t.refused(21, 1, "day(100)", rich, x -> x.day(100));
        t.refusedAsFalse(22, 1, "teach(0, 0, 41)", rich, x -> bit(x.teach(0, 0, 41)));
        t.refused(23, 1, "come(0)", rich, x -> x.come(0));
        t.refused(24, 1, "build(61, 0)", rich, x -> x.build(61, 0));
        t.refused(25, 1, "sow(31, 0)", rich, x -> x.sow(31, 0));
        t.refusedAsFalse(26, 1, "rule(5, 17)", rich, x -> bit(x.rule(5, 17)));
    }

    private static void numbersAhead(Twins t) {
        Supplier<LeapArches> rich = States::rich;
        t.refused(27, 1, "strain(0, 4)", rich, x -> x.strain(0, 4));
        t.refused(28, 1, "strainOf(1, 1, 0), one and himself", rich, x -> x.strainOf(1, 1, 0));
        t.refused(29, 1, "reach(3)", rich, x -> x.reach(3));
        t.refused(30, 1, "reachIn(0, 41)", rich, x -> x.reachIn(0, 41));
        t.refused(31, 1, "stops(-1)", rich, x -> x.stops(-1));
        t.refused(32, 1, "stopsBoth(2, 2), one and himself", rich, x -> x.stopsBoth(2, 2));
        t.refused(33, 1, "pays(3)", rich, x -> x.pays(3));
        t.refused(34, 1, "span(3)", rich, x -> x.span(3));
        t.refused(35, 1, "spanFrom(3)", rich, x -> x.spanFrom(3));
        t.refused(37, 1, "mossIn(0, 41)", rich, x -> x.mossIn(0, 41));
    }

    /** Status 2: "the TRAY is MISSING". */
    private static void missingTrays(Twins t) {
        Supplier<LeapArches> rich = States::rich;
        t.refusedAsFalse(6, 2, "write(3, 0, 1)", rich, x -> bit(x.write(3, 0, 1)));
        t.refused(7, 2, "read(3, 0)", rich, x -> x.read(3, 0));
        t.refusedAsFalse(8, 2, "pour from a TRAY that is MISSING", rich, x -> bit(x.pour(3, 0, 0, 0, 1)));
        t.refusedAsFalse(8, 2, "pour to a TRAY that is MISSING", rich, x -> bit(x.pour(0, 0, 3, 0, 1)));
        t.refusedAsFalse(8, 2, "pour of nothing from it to itself", rich, x -> bit(x.pour(3, 0, 3, 0, 0)));
        t.refused(43, 2, "fits(0, 3, 0)", rich, x -> x.fits(0, 3, 0));
        t.refused(44, 2, "fitsAt(0, 3, 0, 0)", rich, x -> x.fitsAt(0, 3, 0, 0));
        t.refused(45, 2, "ask(0, 3, 0)", rich, x -> x.ask(0, 3, 0));
        t.refused(52, 2, "copyAt(3)", rich, x -> x.copyAt(3));
        for (int tray = 0; tray < 4; tray++) {
            int which = tray;
            t.refused(52, 2, "copyAt(" + tray + ") of a new object, without PEOPLE", States::bare, x -> x.copyAt(which));
        }
    }

    /** Status 3: "a place that the TRAY has not, or too few numbers". */
    private static void placesAndTooFewNumbers(Twins t) {
        Supplier<LeapArches> rich = States::rich;
        int[] places = {6, -1, Integer.MAX_VALUE, Integer.MIN_VALUE};
        for (int place : places) {
            t.refusedAsFalse(6, 3, "write(0, " + place + ", 1)", rich, x -> bit(x.write(0, place, 1)));
            t.refused(7, 3, "read(0, " + place + ")", rich, x -> x.read(0, place));
        }
        int[][] pours = {{2, 39, 1, 0, 2}, {2, 0, 1, 1, 2}, {2, 40, 1, 0, 1}, {2, 41, 1, 0, 0}, {2, 0, 1, 3, 0}, {1, 0, 1, 1, 2}, {1, 1, 1, 0, 2},
            {2, 0, 1, 0, Integer.MAX_VALUE}, {2, Integer.MAX_VALUE, 1, 0, 1}, {2, 0, 1, Integer.MAX_VALUE, 1}, {2, 1, 1, 1, Integer.MAX_VALUE}};
        for (int[] p : pours) {
            t.refusedAsFalse(8, 3, "pour" + java.util.Arrays.toString(p), rich, x -> bit(x.pour(p[0], p[1], p[2], p[3], p[4])));
        }
        t.refused(43, 3, "fits(0, 0, 4)", rich, x -> x.fits(0, 0, 4));
        t.refused(44, 3, "fitsAt(0, 0, 4, 0)", rich, x -> x.fitsAt(0, 0, 4, 0));
        t.refused(45, 3, "ask(0, 0, 4)", rich, x -> x.ask(0, 0, 4));
        t.refused(52, 3, "copyAt(1), two places for three", rich, x -> x.copyAt(1));
        t.refused(52, 3, "copyAt(0), two places for six", States::full, x -> x.copyAt(0));
    }

    /** Status 4: "one too many". */
    private static void oneTooMany(Twins t) {
        Supplier<LeapArches> full = States::full;
        t.refused(21, 4, "day(1) on DAY 9,999", full, x -> x.day(1));
        t.refused(21, 4, "day(99) on DAY 9,999", full, x -> x.day(99));
        t.refused(23, 4, "come(1), a seventh", full, x -> x.come(1));
        t.refused(24, 4, "build(0, 0), a tenth", full, x -> x.build(0, 0));
        t.refused(25, 4, "sow(1, 0), a ninth", full, x -> x.sow(1, 0));
        t.refused(56, 4, "mark(), a fourth", full, x -> x.mark());
    }

    /** Status 5: "a number in a TRAY that can't be". */
    private static void numbersInTrays(Twins t) {
        Supplier<LeapArches> rich = States::rich;
        for (int n = 2; n < 4; n++) {
            int twos = n;
            t.refused(43, 5, "fits(0, 0, " + n + ")", rich, x -> x.fits(0, 0, twos));
            t.refused(44, 5, "fitsAt(0, 0, " + n + ", 0)", rich, x -> x.fitsAt(0, 0, twos, 0));
            t.refused(45, 5, "ask(0, 0, " + n + ")", rich, x -> x.ask(0, 0, twos));
        }
    }

    /** Status 6: "there is none such". */
    private static void noneSuchOnTheViaduct(Twins t) {
        Supplier<LeapArches> rich = States::rich;
        Supplier<LeapArches> heavy = on(HEAVY);
        Supplier<LeapArches> noArches = on("person a weight 3;person b weight 4;");
        t.refused(31, 6, "stops(2), who is OVER", rich, x -> x.stops(2));
        t.refused(31, 6, "stops(0) without ARCHES", noArches, x -> x.stops(0));
        t.refused(32, 6, "stopsBoth(0, 1) without ARCHES", noArches, x -> x.stopsBoth(0, 1));
        t.refused(32, 6, "stopsBoth, borne by all", on("arch holds 9;person a weight 1;person b weight 4;"), x -> x.stopsBoth(0, 1));
        t.refused(35, 6, "spanFrom(0), whom none BEARS", heavy, x -> x.spanFrom(0));
        t.refused(35, 6, "spanFrom(0) without ARCHES", noArches, x -> x.spanFrom(0));
        t.refused(36, 6, "weakest() without ARCHES", noArches, x -> x.weakest());
        t.refused(36, 6, "weakest() of a new object", States::bare, x -> x.weakest());
        t.refused(39, 6, "cheapest(1)", heavy, x -> x.cheapest(1));
        t.refused(39, 6, "cheapest(5), of whom one can", heavy, x -> x.cheapest(5));
        t.refused(40, 6, "mate(1, 0)", heavy, x -> x.mate(1, 0));
        t.refused(40, 6, "mate(5, 2), who could go alone", heavy, x -> x.mate(5, 2));
        t.refused(41, 6, "mends(1)", heavy, x -> x.mends(1));
        t.refused(41, 6, "mends(7)", heavy, x -> x.mends(7));
        t.refused(42, 6, "mendsAt(1, 0)", heavy, x -> x.mendsAt(1, 0));
        t.refused(42, 6, "mendsAt(6, 1)", heavy, x -> x.mendsAt(6, 1));
    }

    private static void noneSuchElse(Twins t) {
        Supplier<LeapArches> rich = States::rich;
        t.refused(44, 6, "fitsAt(0, 2, 0, 10), beyond the ten", rich, x -> x.fitsAt(0, 2, 0, 10));
        t.refused(44, 6, "fitsAt(0, 2, 0, MAX)", rich, x -> x.fitsAt(0, 2, 0, Integer.MAX_VALUE));
        t.refused(45, 6, "ask(0, 2, 1), no DOUBT fits", rich, x -> x.ask(0, 2, 1));
        t.refused(45, 6, "ask, one DOUBT fits", RefusedTest::oneDoubtFits, x -> x.ask(0, 0, 1));
        t.refused(53, 6, "live(0) of a new object", States::bare, x -> x.live(0));
        t.refused(53, 6, "live(0), of another VIADUCT", RefusedTest::anotherViaduct, x -> x.live(0));
        t.refused(54, 6, "lived(0) of a new object", States::bare, x -> x.lived(0));
        t.refused(54, 6, "lived(4), DECADES that nobody LIVED", on(HEAVY), x -> x.lived(4));
        t.refusedAsFalse(55, 6, "mean(0, 1) of a new object", States::bare, x -> bit(x.mean(0, 1)));
        t.refusedAsFalse(55, 6, "mean(9980, 20), of another VIADUCT", RefusedTest::anotherViaduct, x -> bit(x.mean(9980, 20)));
        t.refused(57, 6, "undo() of a new object", States::bare, x -> x.undo());
        t.refused(57, 6, "undo() behind all MARKS", RefusedTest::allTakenBack, x -> x.undo());
    }

    /** DOUBT 0 alone is over in FOG 5: 20 of 20. */
    private static LeapArches oneDoubtFits() {
        LeapArches x = Check.withViaduct("arch holds 20;person a weight 20;");
        States.lay(x, 0, 0, 5, 1);
        return x;
    }

    private static LeapArches anotherViaduct() {
        LeapArches x = States.rich();
        x.viaduct(States.RICH_TAPE);
        return x;
    }

    private static LeapArches allTakenBack() {
        LeapArches x = States.rich();
        x.undo();
        x.undo();
        return x;
    }

    /** Status 7: "it can't be". */
    private static void whatCannotBe(Twins t) {
        Supplier<LeapArches> rich = States::rich;
        Supplier<LeapArches> bothOver = on("arch holds 3;person a weight 3 at 1;person b weight 3 at 1;");
        Supplier<LeapArches> noArches = on("person a weight 3;person b weight 4;");
        t.refused(17, 7, "run(2), who is OVER", rich, x -> x.run(2));
        t.refused(17, 7, "run(0) without ARCHES", noArches, x -> x.run(0));
        t.refused(18, 7, "rope(0, 2), not AT as many", rich, x -> x.rope(0, 2));
        t.refused(18, 7, "rope(2, 0), not AT as many", rich, x -> x.rope(2, 0));
        t.refused(18, 7, "rope(0, 1), who are OVER", bothOver, x -> x.rope(0, 1));
        t.refused(18, 7, "rope(0, 1) without ARCHES", noArches, x -> x.rope(0, 1));
        t.refused(19, 7, "jump(1), it HOLDS 60 and has no MOSS", rich, x -> x.jump(1));
        t.refused(20, 7, "home(0), who has none behind him", on(HEAVY), x -> x.home(0));
    }

    /** Status 8: "TRAYS are of unlike sorts". */
    private static void unlikeSorts(Twins t) {
        t.refusedAsFalse(8, 8, "pour(0, 0, 1, 0, 1)", States::rich, x -> bit(x.pour(0, 0, 1, 0, 1)));
        t.refusedAsFalse(8, 8, "pour(1, 0, 0, 0, 0), of nothing", States::rich, x -> bit(x.pour(1, 0, 0, 0, 0)));
        for (int from = 0; from < 4; from++) {
            for (int to = 0; to < 4; to++) {
                int a = from;
                int b = to;
                // Of full() TRAY 0 has sort 3, the others 0 to 2.
                if (a != b) {
                    t.refusedAsFalse(8, 8, "pour(" + a + ", 0, " + b + ", 0, 1)", States::full, x -> bit(x.pour(a, 0, b, 0, 1)));
                }
            }
        }
    }

    /** Status 9: "a FAULT": a text of each kind, with much that could be taken ahead of it. */
    private static void texts(Twins t) {
        String head = "net 3;fog 2;odds 1;arch holds 3 moss 1 toll 2;person z weight 3 doubt 0 love 2 at 1;plant 1 joy 1;";
        String[] viaducts = {"@", "net", "net 3", head + "@", head + "12345", head + ";", head + "person z weight 3;", head + "plant 31 joy 1;",
            head + "net 3;", "arch holds 3;".repeat(9) + "arch holds 3;"};
        for (String text : viaducts) {
            t.refusedText(10, "viaduct of \"" + text + "\"", () -> States.rich(text), x -> x.viaduct(text.length()));
        }
        String steps = "run a;loop 2;fog 3;end;when over a;day 2;end;";
        String[] decades = {"@", "run", "end;", steps + "@", steps + "00001", steps + ";", steps + "loop 1;", steps + "run z;", steps + "jump 4;",
            steps + "any;".repeat(26) + "any;", "loop 1;loop 1;loop 1;loop 1;end;end;end;end;"};
        for (String text : decades) {
            t.refusedText(11, "decades of \"" + text + "\"", () -> States.rich(text), x -> x.decades(text.length()));
        }
    }

    /** The brackets at the end of each promise: each STATUS there has a call above. */
    private static void everyStatusOfTheDocument(Check c, Set<String> seen) throws Exception {
        Set<String> want = new TreeSet<>();
        String document = Files.readString(DOCUMENT, StandardCharsets.UTF_8);
        Matcher promise = Pattern.compile("## Promise (\\d+): \\w+[^\n]*\n\n(.*)\n").matcher(document);
        while (promise.find()) {
            for (String status : statusOf(promise.group(2))) {
                want.add(promise.group(1) + " " + status);
            }
        }
        c.due("STATUS by promise\n  tried " + seen + "\n  told  " + want + "\n ", seen.equals(want), true);
    }

    private static List<String> statusOf(String promise) {
        List<String> all = new ArrayList<>();
        int end = promise.lastIndexOf(')');
        int begin = promise.lastIndexOf('(');
        if (begin < 0 || end < begin) {
            return all;
        }
        for (String piece : promise.substring(begin + 1, end).split("[;,] ?")) {
            if (piece.matches("\\d(:.*)?")) {
                all.add(piece.substring(0, 1));
            }
        }
        return all;
    }
}
