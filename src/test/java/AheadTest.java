/** Promises 27 to 37: strain() to mossIn(), who gets how far. */
public final class AheadTest {
    // STRAIN of a: 10 - 0 + 2 (MOSS + 1); of b: 3 - 9 + 0; of d: 9 - 1 + 1 (MOSS + 1); of e: 1 - 0 + 9 (MOSS + 1)
    private static final String GROUND = "fog 1;net 1;arch holds 14 moss 1 toll 2;arch holds 12 toll 3;arch holds 13 moss 2 toll 4;arch holds 20 toll 5;"
        + "person a weight 10 doubt 2;person b weight 3 doubt 0 love 9;person d weight 9 love 1 at 1;person e weight 1 doubt 9 at 4;";

    public static void main(String[] args) {
        Check c = new Check("AheadTest");
        strains(c);
        reaches(c);
        reachesInSomeDays(c);
        whatStops(c);
        whatStopsBoth(c);
        whatOnePays(c);
        spans(c);
        theWeakest(c);
        mossInSomeDays(c);
        nothingIsChanged(c);
        c.end();
    }

    private static void strains(Check c) {
        LeapArches x = Check.withViaduct(GROUND);
        c.due("strain(0, 0)", x.strain(0, 0), 14);
        c.due("strain(0, 1)", x.strain(0, 1), 12);
        c.due("strain(0, 2)", x.strain(0, 2), 16);
        c.due("strain(1, 2)", x.strain(1, 2), -6);
        c.due("strain(3, 2)", x.strain(3, 2), 28);
        x.teach(1, 0, 8);
        c.due("strain(1, 0)", x.strain(1, 0), -1);
        c.due("status() of a STRAIN of -1", x.status(), 0);
        c.refused(x, "strain(4, 0)", x.strain(4, 0), 1);
        c.refused(x, "strain(0, 4)", x.strain(0, 4), 1);
        c.refused(x, "strain(-1, 0)", x.strain(-1, 0), 1);
        c.refused(x, "strain(0, -1)", x.strain(0, -1), 1);

        LeapArches y = Check.withViaduct(GROUND);
        c.due("strainOf(0, 2, 2): 10 + 4 - 1 + 1 * 3", y.strainOf(0, 2, 2), 16);
        c.due("strainOf(2, 0, 2)", y.strainOf(2, 0, 2), 16);
        c.due("strainOf(0, 3, 0): 10 + 0 + 2 * 2", y.strainOf(0, 3, 0), 14);
        c.due("strainOf(1, 2, 0): 9 + 1 - 10", y.strainOf(1, 2, 0), 0);
        c.due("strainOf(1, 3, 0): 3 + 0 - 9", y.strainOf(1, 3, 0), -6);
        y.teach(1, 0, 8);
        c.due("strainOf(1, 3, 0): 8 + 0 - 9", y.strainOf(1, 3, 0), -1);
        c.due("status()", y.status(), 0);
        c.refused(y, "strainOf(1, 1, 0)", y.strainOf(1, 1, 0), 1);
        c.refused(y, "strainOf(1, 4, 0)", y.strainOf(1, 4, 0), 1);
        c.refused(y, "strainOf(-1, 1, 0)", y.strainOf(-1, 1, 0), 1);
        c.refused(y, "strainOf(0, 1, 4)", y.strainOf(0, 1, 4), 1);
        c.refused(y, "strainOf(0, 1, -1)", y.strainOf(0, 1, -1), 1);
    }

    private static void reaches(Check c) {
        LeapArches x = Check.withViaduct(GROUND);
        c.due("reach(0): stopped at 2, falls", x.reach(0), 1);
        c.due("reach(1)", x.reach(1), 4);
        c.due("reach(2): 9, 11, 9", x.reach(2), 4);
        c.due("reach(3), OVER", x.reach(3), 4);
        c.due("status()", x.status(), 0);
        x.rule(3, 2);
        c.due("reach(0), as many as NET", x.reach(0), 2);
        c.refused(x, "reach(4)", x.reach(4), 1);
        c.refused(x, "reach(-1)", x.reach(-1), 1);
    }

    private static void reachesInSomeDays(Check c) {
        LeapArches x = Check.withViaduct(GROUND);
        x.rule(3, 9);
        c.due("reachIn(2, 0)", x.reachIn(2, 0), 4);
        c.due("reachIn(2, 2): MOSS 3, 2, 4, 2", x.reachIn(2, 2), 4);
        c.due("reachIn(2, 3): MOSS 4, 3, 5, 3: 12, 14", x.reachIn(2, 3), 2);
        c.due("reachIn(2, 40): 18", x.reachIn(2, 40), 1);
        c.due("reachIn(1, 40)", x.reachIn(1, 40), 4);
        c.due("reachIn(0, 0)", x.reachIn(0, 0), 2);
        x.jump(0);
        x.jump(1);
        x.jump(2);
        x.jump(2);
        c.due("reachIn(0, 1): what is TROD has less", x.reachIn(0, 1), 4);
        c.due("reachIn(0, 3): MOSS 2, 2: 16 of 15", x.reachIn(0, 3), 0);
        c.refused(x, "reachIn(0, 41)", x.reachIn(0, 41), 1);
        c.refused(x, "reachIn(0, -1)", x.reachIn(0, -1), 1);
        c.refused(x, "reachIn(4, 0)", x.reachIn(4, 0), 1);
        c.refused(x, "reachIn(-1, 0)", x.reachIn(-1, 0), 1);
    }

    private static void whatStops(Check c) {
        LeapArches x = Check.withViaduct(GROUND);
        c.due("stops(0)", x.stops(0), 2);
        c.refused(x, "stops(1)", x.stops(1), 6);
        c.refused(x, "stops(3), OVER", x.stops(3), 6);
        x.home(3);
        c.due("stops(3)", x.stops(3), 0);
        c.due("status()", x.status(), 0);
        c.refused(x, "stops(4)", x.stops(4), 1);
        c.refused(x, "stops(-1)", x.stops(-1), 1);
    }

    private static void whatStopsBoth(Check c) {
        LeapArches x = Check.withViaduct(GROUND);
        c.due("stopsBoth(0, 2), from no ARCH on: 10 + 4 - 1 + 2", x.stopsBoth(0, 2), 0);
        c.due("stopsBoth(0, 3)", x.stopsBoth(0, 3), 2);
        c.due("stopsBoth(3, 0)", x.stopsBoth(3, 0), 2);
        c.refused(x, "stopsBoth(1, 3)", x.stopsBoth(1, 3), 6);
        c.refused(x, "stopsBoth(1, 1)", x.stopsBoth(1, 1), 1);
        c.refused(x, "stopsBoth(4, 1)", x.stopsBoth(4, 1), 1);
        c.refused(x, "stopsBoth(1, -1)", x.stopsBoth(1, -1), 1);
    }

    private static void whatOnePays(Check c) {
        LeapArches x = Check.withViaduct(GROUND);
        c.due("pays(0)", x.pays(0), 5);
        c.due("pays(1)", x.pays(1), 14);
        c.due("pays(2), from where he is", x.pays(2), 12);
        c.due("pays(3)", x.pays(3), 0);
        c.due("status()", x.status(), 0);
        x.run(1);
        c.due("pays(1), not what he has PAID", x.pays(1), 0);
        c.refused(x, "pays(4)", x.pays(4), 1);
        c.refused(x, "pays(-1)", x.pays(-1), 1);
    }

    private static void spans(Check c) {
        LeapArches x = Check.withViaduct("arch holds 5;arch holds 3;arch holds 5;arch holds 6;arch holds 3;arch holds 5;arch holds 9;"
            + "person a weight 5 doubt 0 at 7;person b weight 3 doubt 0;person d weight 10 doubt 0;person e weight 6 doubt 0;");
        c.due("span(0), of two the first", x.span(0), 2);
        c.due("spanFrom(0)", x.spanFrom(0), 2);
        c.due("span(1)", x.span(1), 7);
        c.due("spanFrom(1)", x.spanFrom(1), 0);
        c.due("span(2)", x.span(2), 0);
        c.due("status()", x.status(), 0);
        c.refused(x, "spanFrom(2)", x.spanFrom(2), 6);
        c.due("span(3)", x.span(3), 1);
        c.due("spanFrom(3)", x.spanFrom(3), 3);
        c.refused(x, "span(4)", x.span(4), 1);
        c.refused(x, "span(-1)", x.span(-1), 1);
        c.refused(x, "spanFrom(4)", x.spanFrom(4), 1);
        c.refused(x, "spanFrom(-1)", x.spanFrom(-1), 1);
        LeapArches none = Check.withViaduct("person a weight 5;");
        c.due("span(0) without ARCHES", none.span(0), 0);
        c.refused(none, "spanFrom(0)", none.spanFrom(0), 6);
    }

    private static void theWeakest(Check c) {
        LeapArches x = Check.withViaduct(GROUND);
        // Borne: all but e; all but e; b, d; all.
        c.due("weakest()", x.weakest(), 2);
        x.jump(2);
        x.jump(2);
        c.due("weakest(), of several the first", x.weakest(), 0);
        LeapArches none = new LeapArches();
        c.refused(none, "weakest()", none.weakest(), 6);
        none.build(0, 0);
        none.build(0, 0);
        c.due("weakest() without PEOPLE", none.weakest(), 0);
        c.due("status()", none.status(), 0);
    }

    private static void mossInSomeDays(Check c) {
        LeapArches x = Check.withViaduct("arch holds 9 moss 4;arch holds 9 moss 8;arch holds 9;");
        x.jump(0);
        x.jump(2);
        int[][] moss = {{3, 2, 3, 4}, {8, 9, 9, 9}, {0, 0, 1, 2}};
        for (int arch = 0; arch < 3; arch++) {
            for (int days = 0; days < 4; days++) {
                c.due("mossIn(" + arch + ", " + days + ")", x.mossIn(arch, days), moss[arch][days]);
            }
            c.due("mossIn(" + arch + ", 40)", x.mossIn(arch, 40), 9);
        }
        c.due("status()", x.status(), 0);
        c.refused(x, "mossIn(3, 0)", x.mossIn(3, 0), 1);
        c.refused(x, "mossIn(-1, 0)", x.mossIn(-1, 0), 1);
        c.refused(x, "mossIn(0, 41)", x.mossIn(0, 41), 1);
        c.refused(x, "mossIn(0, -1)", x.mossIn(0, -1), 1);
    }

    private static void nothingIsChanged(Check c) {
        LeapArches x = Check.withViaduct(GROUND);
        x.jump(3);
        x.reach(1);
        x.reachIn(1, 9);
        x.pays(1);
        x.mossIn(3, 9);
        c.due("TROD", x.told(8), 8);
        c.due("PAID", x.told(9), 0);
        c.due("DAY", x.told(6), 0);
        c.due("AT", x.person(1, 3), 0);
        c.due("MOSS", x.arch(0, 1), 1);
    }
}
