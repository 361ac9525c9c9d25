/** The edges of promises 27 to 37: who gets how far. */
public final class AheadEdgesTest {
    public static void main(String[] args) {
        Check c = new Check("AheadEdgesTest");
        theLeastAndTheGreatestStrain(c);
        theLeastAndTheGreatestStrainOfTwo(c);
        reachesByTheNet(c);
        reachesOfWhoIsOver(c);
        leftForDays(c);
        theLastDayDoesNotMatter(c);
        theFirstAndTheLastThatStops(c);
        bothFromNoArchOn(c);
        whatHePays(c);
        spansOfAllLengths(c);
        spansOfSeveral(c);
        theWeakestOfSeveral(c);
        theWeakestAtTheEnds(c);
        mossAhead(c);
        allIsAsItIsNow(c);
        c.end();
    }

    private static void theLeastAndTheGreatestStrain(Check c) {
        c.promise(27, "WEIGHT less LOVE, and DOUBT times MOSS and FOG together (below 0, too)");
        LeapArches x = Check.withViaduct("fog 5;arch holds 0;arch holds 0 moss 9;person a weight 1 doubt 0 love 9;person b weight 40 doubt 9;person d weight 9 doubt 0 love 9;");
        c.given(x, "the least", x.strain(0, 1), -8);
        c.given(x, "the greatest: 40 + 9 * 14", x.strain(1, 1), 166);
        c.given(x, "by FOG alone: 40 + 9 * 5", x.strain(1, 0), 85);
        c.given(x, "0", x.strain(2, 1), 0);
        x.rule(4, 0);
        c.given(x, "by MOSS alone: 40 + 9 * 9", x.strain(1, 1), 121);
        c.given(x, "by neither", x.strain(1, 0), 40);
        c.promise(27, "STATUS tells NONE from -1");
        x.teach(0, 0, 8);
        c.given(x, "-1 that is one", x.strain(0, 0), -1);
        c.refused(x, "NONE", x.strain(0, 2), 1);
        c.given(x, "-1 again", x.strain(0, 1), -1);
    }

    private static void theLeastAndTheGreatestStrainOfTwo(Check c) {
        c.promise(28, "STRAIN of two with a ROPE: the greater WEIGHT and half of the lesser one, rounded down, less LOVE of both, and the lesser DOUBT times MOSS and FOG together.");
        LeapArches x = Check.withViaduct("fog 5;arch holds 0 moss 9;person a weight 1 doubt 0 love 9;person b weight 1 doubt 9 love 9;person d weight 40 doubt 9;person e weight 40 doubt 9;");
        c.given(x, "the least: 1 + 0 - 18 + 0", x.strainOf(0, 1, 0), -17);
        c.given(x, "the greatest: 40 + 20 + 9 * 14", x.strainOf(2, 3, 0), 186);
        c.given(x, "1 and 40: 40 + 0 - 9 + 9 * 14", x.strainOf(1, 2, 0), 157);
        c.given(x, "40 and 1", x.strainOf(2, 1, 0), 157);
        c.given(x, "the lesser DOUBT is 0: 40 + 0 - 9", x.strainOf(0, 2, 0), 31);
        int[] halves = {40, 41, 41, 42, 42, 43};
        for (int weight = 1; weight <= 6; weight++) {
            x.teach(0, 0, weight);
            c.given(x, "40 and half of " + weight + ", less 9", x.strainOf(0, 2, 0), halves[weight - 1] - 9);
        }
        c.promise(28, "STATUS tells NONE from -1");
        x.teach(0, 0, 17);
        c.given(x, "17 + 0 - 18", x.strainOf(1, 0, 0), -1);
        c.refused(x, "NONE", x.strainOf(1, 1, 0), 1);
        c.given(x, "-1 again", x.strainOf(0, 1, 0), -1);
    }

    private static void reachesByTheNet(Check c) {
        c.promise(29, "REACH: how many ARCHES are behind one when he has RUN (FALLEN, too).");
        for (int net = 0; net <= 9; net++) {
            LeapArches x = Check.withViaduct("net " + net + ";" + "arch holds 9;".repeat(8) + "arch holds 1;person a weight 3;person b weight 3 doubt 0;person d weight 3 at 8;person e weight 10;");
            c.given(x, "reach(0), NET " + net, x.reach(0), Math.min(net, 8));
            c.given(x, "reach(1), without DOUBT", x.reach(1), 8);
            c.given(x, "reach(2), from where he is", x.reach(2), Math.min(net, 8));
            c.given(x, "reach(3), stopped at once", x.reach(3), 0);
        }
    }

    private static void reachesOfWhoIsOver(Check c) {
        c.promise(29, "All ahead is as all is now.");
        LeapArches x = Check.withViaduct("net 0;" + "arch holds 1;".repeat(9) + "person a weight 40 doubt 9 at 9;person b weight 1 doubt 0;");
        c.given(x, "who is OVER stays so", x.reach(0), 9);
        c.given(x, "who gets over all nine", x.reach(1), 9);
        LeapArches none = Check.withViaduct("person a weight 40 doubt 9;");
        c.given(none, "without ARCHES", none.reach(0), 0);
        c.given(none, "without ARCHES, in 40 DAYS", none.reachIn(0, 40), 0);
    }

    private static void leftForDays(Check c) {
        c.promise(30, "LEFT are days so: only DAYS go by, then he RUNS");
        // On an ARCH of 10 MOSS may be 5.
        LeapArches x = Check.withViaduct("net 9;arch holds 10 moss 3;person a weight 5;");
        int[] reach = {1, 1, 1, 0, 0};
        for (int days = 0; days < 5; days++) {
            c.given(x, "reachIn(0, " + days + ")", x.reachIn(0, days), reach[days]);
        }
        c.given(x, "reachIn(0, 40)", x.reachIn(0, 40), 0);
        x.jump(0);
        // Now it HOLDS 11 with MOSS 2 and is TROD: 1, 2, 3, 4, 5, 6, 7.
        int[] trod = {1, 1, 1, 1, 1, 1, 1, 0};
        for (int days = 0; days < 8; days++) {
            c.given(x, "reachIn(0, " + days + "), TROD", x.reachIn(0, days), trod[days]);
        }
        x.teach(0, 1, 0);
        c.given(x, "reachIn(0, 40), without DOUBT", x.reachIn(0, 40), 1);
        // 5 + 2 (MOSS + 5) of 21: MOSS 3.
        LeapArches foggy = Check.withViaduct("fog 5;arch holds 21 moss 1;person a weight 5 doubt 2;");
        c.given(foggy, "reachIn(0, 2) in FOG 5", foggy.reachIn(0, 2), 1);
        c.given(foggy, "reachIn(0, 3) in FOG 5", foggy.reachIn(0, 3), 0);
        LeapArches fall = Check.withViaduct("net 1;arch holds 60;arch holds 60;arch holds 5;person a weight 5;");
        c.given(fall, "reachIn(0, 0)", fall.reachIn(0, 0), 3);
        c.given(fall, "reachIn(0, 1), he falls", fall.reachIn(0, 1), 1);
        fall.run(0);
        c.given(fall, "reachIn(0, 40), who is OVER", fall.reachIn(0, 40), 3);
    }

    private static void theLastDayDoesNotMatter(Check c) {
        c.promise(30, "(DAY 9,999 does not matter)");
        LeapArches x = new LeapArches();
        x.build(14, 1);
        x.come(6);
        for (int i = 0; i < 101; i++) {
            x.day(99);
        }
        for (int i = 0; i < 5; i++) {
            x.jump(0);
        }
        // It HOLDS 19 with MOSS 4, and is TROD: 3, 4, .. 9 in 7 DAYS.
        c.due("DAY", x.told(6), 9999);
        x.teach(0, 1, 2);
        c.given(x, "reachIn(0, 0): 6 + 2 * 4", x.reachIn(0, 0), 1);
        c.given(x, "reachIn(0, 4): 6 + 2 * 6", x.reachIn(0, 4), 1);
        c.given(x, "reachIn(0, 5): 6 + 2 * 7", x.reachIn(0, 5), 0);
        c.promise(37, "(DAY 9,999 does not matter)");
        c.given(x, "mossIn(0, 1)", x.mossIn(0, 1), 3);
        c.given(x, "mossIn(0, 40)", x.mossIn(0, 40), 9);
        c.due("DAY", x.told(6), 9999);
    }

    private static void theFirstAndTheLastThatStops(Check c) {
        c.promise(31, "The ARCH that would stop him who RUNS (1; 6: none).");
        for (int stop = 0; stop < 9; stop++) {
            LeapArches x = Check.withViaduct("net 0;" + "arch holds 5;".repeat(stop) + "arch holds 4;" + "arch holds 5;".repeat(8 - stop) + "person a weight 5 doubt 0;");
            c.given(x, "ARCH " + stop, x.stops(0), stop);
            x.jump(stop);
            c.refused(x, "none, a JUMP later", x.stops(0), 6);
            x.run(0);
            c.refused(x, "none, OVER", x.stops(0), 6);
        }
        LeapArches behind = Check.withViaduct("arch holds 4;arch holds 5;person a weight 5 doubt 0 at 1;");
        c.refused(behind, "what is behind him does not stop him", behind.stops(0), 6);
    }

    private static void bothFromNoArchOn(Check c) {
        c.promise(32, "The ARCH that would stop two with a ROPE from no ARCH on (1; 6: none).");
        for (int stop = 0; stop < 9; stop++) {
            LeapArches x = Check.withViaduct("arch holds 7;".repeat(stop) + "arch holds 6;" + "arch holds 7;".repeat(8 - stop) + "person a weight 5 doubt 0 at 9;person b weight 4 doubt 0;");
            c.given(x, "ARCH " + stop + ": 5 + 2", x.stopsBoth(0, 1), stop);
            c.given(x, "the other way round", x.stopsBoth(1, 0), stop);
            x.jump(stop);
            c.refused(x, "none, a JUMP later", x.stopsBoth(0, 1), 6);
        }
    }

    private static void whatHePays(Check c) {
        c.promise(33, "What one would PAY who RUNS");
        LeapArches x = Check.withViaduct("net 0;" + "arch holds 5 toll 9;".repeat(9) + "person a weight 5 doubt 0;person b weight 6 doubt 0;person d weight 5 doubt 0 at 9;person e weight 5 doubt 0 at 8;");
        c.given(x, "all nine", x.pays(0), 81);
        c.given(x, "stopped at once", x.pays(1), 0);
        c.given(x, "OVER", x.pays(2), 0);
        c.given(x, "the last one", x.pays(3), 9);
        LeapArches y = Check.withViaduct("net 0;arch holds 5 toll 9;arch holds 5 toll 0;arch holds 4 toll 7;person a weight 5;");
        c.given(y, "who FALLS has PAID", y.pays(0), 9);
        y.run(0);
        c.given(y, "and would PAY again", y.pays(0), 9);
        LeapArches none = Check.withViaduct("person a weight 5;");
        c.given(none, "without ARCHES", none.pays(0), 0);
    }

    private static void spansOfAllLengths(Check c) {
        for (int from = 0; from < 9; from++) {
            for (int length = 0; from + length <= 9; length++) {
                c.promise(34, "the most ARCHES behind each other that all BEAR him");
                LeapArches x = Check.withViaduct("arch holds 4;".repeat(from) + "arch holds 5;".repeat(length) + "arch holds 4;".repeat(9 - from - length)
                    + "person a weight 5 doubt 0 at 9;");
                c.given(x, "span(0), " + length + " from " + from, x.span(0), length);
                c.promise(35, "SPAN: its first ARCH (1; 6: none BEARS him).");
                if (length == 0) {
                    c.refused(x, "spanFrom(0)", x.spanFrom(0), 6);
                } else {
                    c.given(x, "spanFrom(0)", x.spanFrom(0), from);
                }
            }
        }
    }

    private static void spansOfSeveral(Check c) {
        c.promise(35, "of several the first");
        LeapArches x = Check.withViaduct("arch holds 5;arch holds 4;arch holds 5;arch holds 5;arch holds 4;arch holds 5;arch holds 5;arch holds 4;arch holds 5;person a weight 5 doubt 0;");
        c.given(x, "span(0)", x.span(0), 2);
        c.given(x, "spanFrom(0)", x.spanFrom(0), 2);
        x.jump(7);
        c.given(x, "a later one is greater", x.span(0) * 10 + x.spanFrom(0), 45);
        x.jump(1);
        c.given(x, "an earlier one is as great", x.span(0) * 10 + x.spanFrom(0), 40);
    }

    private static void theWeakestOfSeveral(Check c) {
        c.promise(36, "WEAKEST: the ARCH that BEARS the fewest PEOPLE (each alone); of several the first.");
        LeapArches x = Check.withViaduct("arch holds 5;arch holds 4;arch holds 4;arch holds 5;person a weight 5 doubt 0;person b weight 4 doubt 0;person d weight 3 doubt 0;");
        c.given(x, "3, 2, 2, 3", x.weakest(), 1);
        x.jump(1);
        c.given(x, "3, 3, 2, 3", x.weakest(), 2);
        x.jump(2);
        c.given(x, "3, 3, 3, 3", x.weakest(), 0);
        x.teach(0, 0, 6);
        x.jump(0);
        x.jump(1);
        x.jump(2);
        c.given(x, "3, 3, 3, 2", x.weakest(), 3);
    }

    private static void theWeakestAtTheEnds(Check c) {
        c.promise(36, "(6: no ARCHES)");
        LeapArches x = new LeapArches();
        c.refused(x, "nothing", x.weakest(), 6);
        x.come(3);
        c.refused(x, "a PERSON alone", x.weakest(), 6);
        x.build(2, 0);
        c.given(x, "one ARCH, that BEARS nobody", x.weakest(), 0);
        LeapArches nobody = Check.withViaduct("arch holds 5;arch holds 0;");
        c.given(nobody, "without PEOPLE the first", nobody.weakest(), 0);
        LeapArches last = Check.withViaduct("arch holds 5;".repeat(8) + "arch holds 4;person a weight 5 doubt 0;");
        c.given(last, "the last of nine", last.weakest(), 8);
        LeapArches six = Check.withViaduct("arch holds 5;arch holds 60;person a weight 5;person b weight 5;person d weight 5;person e weight 5;person f weight 5;person g weight 5;");
        c.given(six, "all six on both: the first", six.weakest(), 0);
    }

    private static void mossAhead(Check c) {
        c.promise(37, "MOSS of an ARCH in so many DAYS (0 to 40)");
        for (int moss = 0; moss <= 9; moss++) {
            LeapArches x = Check.withViaduct("arch holds 60 moss " + moss + ";arch holds 60 moss " + moss + ";person a weight 1 doubt 0 at 1;");
            x.run(0);
            int trod = moss;
            int other = moss;
            for (int days = 0; days <= 40; days++) {
                c.given(x, "mossIn(0, " + days + ") of " + moss, x.mossIn(0, days), other);
                c.given(x, "mossIn(1, " + days + ") of " + moss + ", TROD", x.mossIn(1, days), trod);
                other = Math.min(9, other + 1);
                trod = days == 0 ? Math.max(0, trod - 1) : Math.min(9, trod + 1);
            }
        }
    }

    private static void allIsAsItIsNow(Check c) {
        c.promise(29, "All ahead is as all is now.");
        LeapArches x = States.rich();
        String ahead = Whole.seen(x);
        x = States.rich();
        x.strain(0, 0);
        x.strainOf(0, 1, 0);
        x.reach(0);
        x.reachIn(0, 40);
        x.stops(0);
        x.stopsBoth(0, 1);
        x.pays(1);
        x.span(0);
        x.spanFrom(0);
        x.weakest();
        x.mossIn(0, 40);
        x.most();
        x.cheapest(4);
        x.mate(4, 2);
        x.mends(7);
        x.mendsAt(7, 2);
        x.fits(0, 0, 1);
        x.fitsAt(0, 0, 1, 0);
        x.ask(0, 2, 0);
        x.game(0, 1, 4);
        x.moveOf(1, 0, 4);
        x.garden(99);
        x.gardenSet(99);
        c.due("nothing is changed by looking ahead: " + Whole.seen(x), Whole.seen(x).equals(ahead), true);
    }
}
