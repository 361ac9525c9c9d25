/** The edges of promises 17 to 26: what is done. */
public final class DeedEdgesTest {
    public static void main(String[] args) {
        Check c = new Check("DeedEdgesTest");
        borneByAsMuchAsItHolds(c);
        strainsBelowNought(c);
        fallingByDoubt(c);
        fallingByTheNet(c);
        theHighestAndTheLowestNet(c);
        runningFromTheLastArch(c);
        whoIsOver(c);
        ropesOfHalves(c);
        ropesByTheLesserDoubt(c);
        ropesThatGoNowhere(c);
        ropedFalls(c);
        whoMayRope(c);
        jumpsAtTheEnds(c);
        homeFromEachArch(c);
        mossAtItsEnds(c);
        oneDayAndNinetyNine(c);
        theLastDay(c);
        daysWithoutArches(c);
        teachingBothEnds(c);
        theSixthAndTheSeventh(c);
        theNinthAndTheTenth(c);
        theEighthAndTheNinth(c);
        rulesFromNowOn(c);
        c.end();
    }

    private static void borneByAsMuchAsItHolds(Check c) {
        c.promise(17, "An ARCH BEARS them, if STRAIN is no more than it HOLDS.");
        for (int weight = 9; weight <= 11; weight++) {
            LeapArches x = Check.withViaduct("net 9;arch holds 10;person a weight " + weight + " doubt 0;");
            boolean borne = weight <= 10;
            c.given(x, "run(0), WEIGHT " + weight + " of 10", x.run(0), borne ? 1 : 0);
            c.due("TROD", x.told(8), borne ? 1 : 0);
            c.due("PAID", x.told(9), borne ? 1 : 0);
        }
        // MOSS and FOG together, times DOUBT: 4 + 2 * (2 + 1) = 10.
        LeapArches y = Check.withViaduct("fog 1;arch holds 10 moss 2;person a weight 4 doubt 2;person b weight 5 doubt 2;person d weight 5 doubt 2 love 1;");
        c.given(y, "4 + 6 of 10", y.run(0), 1);
        c.given(y, "5 + 6 of 10", y.run(1), 0);
        c.given(y, "5 - 1 + 6 of 10", y.run(2), 1);
    }

    private static void strainsBelowNought(Check c) {
        c.promise(17, "(below 0, too)");
        LeapArches x = Check.withViaduct("net 9;arch holds 0;arch holds 0 moss 8;arch holds 0 moss 9;person a weight 1 love 9;person b weight 1 doubt 0;person d weight 9 doubt 0 love 9;");
        c.given(x, "-8, 0, then 1 of 0", x.run(0), 2);
        c.given(x, "1 of 0", x.run(1), 0);
        c.given(x, "0 of 0, thrice", x.run(2), 3);
    }

    private static void fallingByDoubt(Check c) {
        c.promise(17, "he FALLS, if his DOUBT is above 0");
        for (int doubt = 0; doubt <= 2; doubt++) {
            LeapArches x = Check.withViaduct("net 1;arch holds 9;arch holds 9;arch holds 1;person a weight 5 doubt " + doubt + ";");
            c.given(x, "run(0), DOUBT " + doubt, x.run(0), doubt == 0 ? 2 : 1);
            c.due("FELL", x.person(0, 5), doubt == 0 ? 0 : 1);
            c.due("PAID", x.person(0, 4), 2);
            c.due("TROD", x.told(8), 3);
        }
    }

    private static void fallingByTheNet(Check c) {
        c.promise(17, "there are more ARCHES behind him than NET: NET are, then");
        for (int net = 0; net <= 9; net++) {
            LeapArches x = Check.withViaduct("net " + net + ";" + "arch holds 9;".repeat(4) + "arch holds 1;arch holds 9;person a weight 5;");
            c.given(x, "run(0), four behind him, NET " + net, x.run(0), Math.min(net, 4));
            c.due("FELL", x.person(0, 5), net < 4 ? 1 : 0);
            c.given(x, "run(0) again", x.run(0), Math.min(net, 4));
            c.due("FELL", x.person(0, 5), net < 4 ? 2 : 0);
            c.due("PAID, what lies above the NET twice", x.person(0, 4), net < 4 ? 8 - net : 4);
        }
    }

    private static void theHighestAndTheLowestNet(Check c) {
        c.promise(17, "If there is one left: he FALLS");
        String eight = "arch holds 9;".repeat(8);
        LeapArches x = Check.withViaduct("net 8;" + eight + "arch holds 1;person a weight 5;person b weight 5 at 8;");
        c.given(x, "the last ARCH stops him, NET 8", x.run(0), 8);
        x.rule(3, 7);
        c.given(x, "NET 7", x.run(0), 7);
        x.rule(3, 0);
        c.given(x, "NET 0, from where he is", x.run(1), 0);
        c.due("FELL, without having gone", x.person(1, 5) * 10 + x.person(1, 4), 10);
        LeapArches y = Check.withViaduct("net 0;arch holds 1;person a weight 5;");
        c.given(y, "the first ARCH stops him, NET 0", y.run(0), 0);
        c.due("FELL", y.person(0, 5), 0);
        LeapArches z = Check.withViaduct("net 0;" + eight + "arch holds 9;person a weight 5;");
        c.given(z, "none is left: he does not fall", z.run(0), 9);
        c.due("FELL", z.person(0, 5), 0);
    }

    private static void runningFromTheLastArch(Check c) {
        c.promise(17, "a PERSON goes over the next ARCH as long as there is one and it BEARS him: it is TROD, its TOLL is PAID by him");
        LeapArches x = Check.withViaduct("net 0;arch holds 1 toll 9;arch holds 5 toll 0;arch holds 5 toll 7;person a weight 5 at 2;person b weight 5 at 1;");
        c.given(x, "run(0), the last one alone", x.run(0), 3);
        c.due("TROD", x.told(8), 4);
        c.due("PAID", x.person(0, 4), 7);
        c.given(x, "run(1), the last two", x.run(1), 3);
        c.due("TROD", x.told(8), 6);
        c.due("PAID", x.person(1, 4), 7);
    }

    private static void whoIsOver(Check c) {
        c.promise(17, "OVER is one who has all ARCHES behind him.");
        LeapArches x = Check.withViaduct("arch holds 5;person a weight 5;");
        c.given(x, "run(0)", x.run(0), 1);
        c.refused(x, "run(0), OVER", x.run(0), 7);
        x.build(5, 1);
        c.given(x, "run(0), one ARCH more", x.run(0), 2);
        c.refused(x, "run(0), OVER again", x.run(0), 7);
        x.home(0);
        c.given(x, "run(0), from HOME", x.run(0), 2);
        LeapArches none = Check.withViaduct("person a weight 5;");
        c.refused(none, "run(0) without ARCHES", none.run(0), 7);
    }

    private static void ropesOfHalves(Check c) {
        c.promise(18, "the greater WEIGHT and half of the lesser one, rounded down");
        // With a of 9: 9 + half; the ARCH HOLDS 10.
        int[] lesser = {1, 2, 3, 4, 5};
        int[] gone = {1, 1, 1, 0, 0};
        for (int i = 0; i < lesser.length; i++) {
            LeapArches x = Check.withViaduct("arch holds 10;person a weight 9 doubt 0;person b weight " + lesser[i] + " doubt 0;");
            c.given(x, "rope(0, 1), 9 and " + lesser[i], x.rope(0, 1), gone[i]);
            x = Check.withViaduct("arch holds 10;person a weight 9 doubt 0;person b weight " + lesser[i] + " doubt 0;");
            c.given(x, "rope(1, 0), " + lesser[i] + " and 9", x.rope(1, 0), gone[i]);
        }
        LeapArches even = Check.withViaduct("arch holds 60;arch holds 59;person a weight 40 doubt 0;person b weight 40 doubt 0;");
        c.given(even, "40 and 40: 60", even.rope(0, 1), 1);
    }

    private static void ropesByTheLesserDoubt(Check c) {
        c.promise(18, "less LOVE of both, and the lesser DOUBT times MOSS and FOG together");
        // 8 + 2 - 1 - 3 + lesser * (2 + 1)
        String arches = "fog 1;arch holds 9 moss 2;arch holds 8 moss 2;";
        LeapArches x = Check.withViaduct(arches + "person a weight 8 doubt 1 love 1;person b weight 4 doubt 9 love 3;");
        c.given(x, "6 + 3", x.rope(0, 1), 1);
        LeapArches y = Check.withViaduct(arches + "person a weight 8 doubt 9 love 1;person b weight 4 doubt 1 love 3;");
        c.given(y, "6 + 3, the other's DOUBT", y.rope(0, 1), 1);
        LeapArches z = Check.withViaduct(arches + "person a weight 8 doubt 0 love 1;person b weight 4 doubt 9 love 3;");
        c.given(z, "6 + 0", z.rope(1, 0), 2);
        LeapArches below = Check.withViaduct("net 9;arch holds 0;arch holds 0 moss 9;person a weight 1 doubt 2 love 9;person b weight 1 doubt 2 love 9;");
        c.given(below, "1 + 0 - 18, and 18 more: 1 of 0", below.rope(0, 1), 1);
    }

    private static void ropesThatGoNowhere(Check c) {
        c.promise(18, "how many ARCHES were gone over by it");
        LeapArches x = Check.withViaduct("net 0;arch holds 9;arch holds 1;person a weight 5 at 1;person b weight 5 doubt 0 at 1;");
        c.given(x, "none, and a falls", x.rope(1, 0), 0);
        c.due("AT", x.person(0, 3) * 10 + x.person(1, 3), 1);
        c.due("FELL", x.person(0, 5) * 10 + x.person(1, 5), 10);
        c.due("TROD, PAID", x.told(8) + x.told(9), 0);
        LeapArches nine = Check.withViaduct("net 0;" + "arch holds 9 toll 9;".repeat(9) + "person a weight 5 doubt 0;person b weight 5 doubt 0;");
        c.given(nine, "all nine", nine.rope(1, 0), 9);
        c.due("TROD", nine.told(8), 511);
        c.due("PAID by the first alone", nine.person(1, 4) * 100 + nine.person(0, 4), 8100);
        c.due("OVER", nine.told(7), 3);
    }

    private static void ropedFalls(Check c) {
        c.promise(18, "then each FALLS, or not, by his own DOUBT");
        for (int doubts = 0; doubts < 4; doubts++) {
            for (int net = 1; net <= 3; net++) {
                LeapArches x = Check.withViaduct("net " + net + ";arch holds 9;arch holds 9;arch holds 1;person a weight 5 doubt " + (doubts & 1)
                    + ";person b weight 5 doubt " + (doubts >> 1) + ";");
                c.given(x, "rope(0, 1)", x.rope(0, 1), 2);
                boolean first = (doubts & 1) == 1 && net < 2;
                boolean second = doubts >> 1 == 1 && net < 2;
                c.due("AT", x.person(0, 3) * 10 + x.person(1, 3), (first ? net : 2) * 10 + (second ? net : 2));
                c.due("FELL", x.person(0, 5) * 10 + x.person(1, 5), (first ? 10 : 0) + (second ? 1 : 0));
            }
        }
        LeapArches over = Check.withViaduct("net 0;arch holds 9;person a weight 5;person b weight 5;");
        c.given(over, "none is left: nobody falls", over.rope(0, 1), 1);
        c.due("FELL", over.person(0, 5) + over.person(1, 5), 0);
    }

    private static void whoMayRope(Check c) {
        c.promise(18, "(1: one and himself, too; 7: they are not AT as many, they are OVER)");
        LeapArches x = Check.withViaduct("arch holds 9;arch holds 9;person a weight 5;person b weight 5 at 1;person d weight 5 at 2;person e weight 5 at 2;");
        c.refused(x, "0 and 1 behind them", x.rope(0, 1), 7);
        c.refused(x, "1 and 2 behind them, one is OVER", x.rope(1, 2), 7);
        c.refused(x, "both OVER", x.rope(2, 3), 7);
        c.refused(x, "one and himself", x.rope(0, 0), 1);
        c.refused(x, "one and himself, OVER", x.rope(2, 2), 1);
        x.home(1);
        c.given(x, "both at none", x.rope(0, 1), 2);
        x.build(9, 1);
        c.given(x, "both were OVER ahead of this ARCH", x.rope(2, 3), 1);
    }

    private static void jumpsAtTheEnds(Check c) {
        c.promise(19, "it HOLDS 1 more (60 at most), MOSS is 1 less (0 at least); it is TROD");
        int[][] ahead = {{0, 0}, {0, 9}, {58, 1}, {59, 0}, {59, 1}, {60, 1}, {60, 9}};
        int[][] behind = {{1, 0}, {1, 8}, {59, 0}, {60, 0}, {60, 0}, {60, 0}, {60, 8}};
        for (int i = 0; i < ahead.length; i++) {
            LeapArches x = Check.withViaduct("arch holds 1 moss 3;arch holds " + ahead[i][0] + " moss " + ahead[i][1] + ";");
            c.given(x, "jump(1), HOLDS " + ahead[i][0] + ", MOSS " + ahead[i][1], x.jump(1), behind[i][0]);
            c.due("HOLDS", x.arch(1, 0), behind[i][0]);
            c.due("MOSS", x.arch(1, 1), behind[i][1]);
            c.due("TROD", x.told(8), 2);
            c.due("the other one stays", x.arch(0, 0) * 10 + x.arch(0, 1), 13);
        }
        c.promise(19, "(1; 7: it HOLDS 60 and has no MOSS)");
        LeapArches full = Check.withViaduct("arch holds 60;");
        c.refused(full, "jump(0)", full.jump(0), 7);
        c.due("it is not TROD", full.told(8), 0);
        full.day(1);
        c.given(full, "jump(0), a DAY later", full.jump(0), 60);
        c.refused(full, "jump(0) again", full.jump(0), 7);
    }

    private static void homeFromEachArch(Check c) {
        c.promise(20, "HOME: how many ARCHES were behind him (1; 7: none).");
        for (int at = 0; at <= 9; at++) {
            LeapArches x = Check.withViaduct("arch holds 5;".repeat(9) + "person a weight 3 at " + at + ";person b weight 3 at " + at + ";");
            if (at == 0) {
                c.refused(x, "home(0)", x.home(0), 7);
            } else {
                c.given(x, "home(0)", x.home(0), at);
            }
            c.due("AT", x.person(0, 3), 0);
            c.refused(x, "home(0) again", x.home(0), 7);
            c.due("the other one stays", x.person(1, 3), at);
            c.due("he has not FALLEN, nothing is TROD or PAID", x.person(0, 5) + x.told(8) + x.told(9), 0);
        }
    }

    private static void mossAtItsEnds(Check c) {
        c.promise(21, "MOSS of each ARCH that is TROD is 1 less (0 at least), of each other one 1 more (9 at most); then none is TROD");
        for (int moss = 0; moss <= 9; moss++) {
            LeapArches x = Check.withViaduct("arch holds 9 moss " + moss + ";arch holds 60 moss " + moss + ";person a weight 1 doubt 0 at 1;");
            x.run(0);
            int less = Math.max(0, moss - 1);
            int more = Math.min(9, moss + 1);
            c.given(x, "day(1), MOSS " + moss, x.day(1), more + less);
            c.due("where nobody went", x.arch(0, 1), more);
            c.due("where one went", x.arch(1, 1), less);
            c.due("TROD", x.told(8), 0);
            c.given(x, "day(1) again", x.day(1), Math.min(9, more + 1) + Math.min(9, less + 1));
        }
    }

    private static void oneDayAndNinetyNine(Check c) {
        c.promise(21, "So many DAYS (1 to 99): MOSS of all ARCHES together then");
        LeapArches x = Check.withViaduct("arch holds 60 moss 9;arch holds 60;person a weight 1 doubt 0;");
        x.run(0);
        c.given(x, "day(2): 8, 9 and 0, 1", x.day(2), 10);
        x.home(0);
        x.run(0);
        c.given(x, "day(99)", x.day(99), 18);
        c.due("DAY", x.told(6), 101);
        c.refused(x, "day(100)", x.day(100), 1);
        c.refused(x, "day(0)", x.day(0), 1);
        c.due("DAY", x.told(6), 101);
        LeapArches nine = Check.withViaduct("arch holds 60;".repeat(9));
        c.given(nine, "all nine", nine.day(1), 9);
        c.given(nine, "all nine, full", nine.day(8), 81);
        c.given(nine, "all nine, no more", nine.day(1), 81);
    }

    private static void theLastDay(Check c) {
        c.promise(21, "A DAY goes by (to 9,999)");
        LeapArches x = new LeapArches();
        x.build(5, 1);
        for (int i = 0; i < 100; i++) {
            x.day(99);
        }
        c.due("DAY", x.told(6), 9900);
        x.jump(0);
        c.given(x, "to 9,998", x.day(98), 9);
        c.refused(x, "to 10,000", x.day(2), 4);
        c.due("DAY", x.told(6), 9998);
        c.given(x, "to 9,999", x.day(1), 9);
        c.refused(x, "to 10,000", x.day(1), 4);
        c.refused(x, "to 10,098", x.day(99), 4);
        c.due("DAY", x.told(6), 9999);
        LeapArches y = new LeapArches();
        for (int i = 0; i < 100; i++) {
            y.day(99);
        }
        c.given(y, "99 to the last one", y.day(99), 0);
        c.due("DAY", y.told(6), 9999);
    }

    private static void daysWithoutArches(Check c) {
        c.promise(21, "MOSS of all ARCHES together then");
        LeapArches x = new LeapArches();
        c.given(x, "day(1) of nothing", x.day(1), 0);
        c.due("DAY", x.told(6), 1);
        x.build(3, 1);
        c.given(x, "an ARCH that is built has no MOSS yet", x.arch(0, 1), 0);
        c.given(x, "day(1)", x.day(1), 1);
    }

    private static void teachingBothEnds(Check c) {
        c.promise(22, "WEIGHT (what 0: 1 to 40), DOUBT (1: 0 to 9), LOVE (2: 0 to 9) of a PERSON from now on");
        LeapArches x = Check.withViaduct("net 9;arch holds 10 moss 1;person a weight 5;person b weight 5;");
        int[][] ends = {{1, 40}, {0, 9}, {0, 9}};
        for (int what = 0; what < 3; what++) {
            for (int v = ends[what][0]; v <= ends[what][1]; v++) {
                c.given(x, "teach(0, " + what + ", " + v + ")", x.teach(0, what, v));
                c.due("person(0, " + what + ")", x.person(0, what), v);
            }
            c.refused(x, "one less", x.teach(0, what, ends[what][0] - 1), 1);
            c.refused(x, "one more", x.teach(0, what, ends[what][1] + 1), 1);
            c.due("as it was", x.person(0, what), ends[what][1]);
        }
        c.due("STRAIN by all three: 40 - 9 + 9", x.strain(0, 0), 40);
        c.due("the other one stays", x.person(1, 0) * 100 + x.person(1, 1) * 10 + x.person(1, 2), 510);
    }

    private static void theSixthAndTheSeventh(Check c) {
        c.promise(23, "One PERSON more, DOUBT 1, LOVE 0 (WEIGHT 1 to 40), with no ARCH behind him: his number (1; 4: a seventh).");
        LeapArches x = new LeapArches();
        for (int i = 0; i < 6; i++) {
            int weight = i % 2 == 0 ? 1 : 40;
            c.given(x, "come(" + weight + ")", x.come(weight), i);
            c.due("WEIGHT", x.person(i, 0), weight);
            c.due("DOUBT", x.person(i, 1), 1);
            c.due("LOVE, AT, PAID, FELL", x.person(i, 2) + x.person(i, 3) + x.person(i, 4) + x.person(i, 5), 0);
        }
        c.refused(x, "a seventh", x.come(1), 4);
        c.due("PEOPLE", x.told(1), 6);
        LeapArches y = Check.withViaduct("net 0;arch holds 9;arch holds 1;person a weight 5 doubt 7 love 2;");
        y.mark();
        y.come(5);
        y.teach(1, 1, 3);
        y.teach(1, 2, 3);
        y.run(1);
        y.undo();
        c.given(y, "one who comes where another was", y.come(6), 1);
        c.due("he is new", y.person(1, 1) * 10 + y.person(1, 2) + y.person(1, 3) + y.person(1, 4) + y.person(1, 5), 10);
    }

    private static void theNinthAndTheTenth(Check c) {
        c.promise(24, "One ARCH more, behind all, without MOSS (HOLDS 0 to 60, TOLL 0 to 9): its number (1; 4: a tenth).");
        LeapArches x = new LeapArches();
        for (int i = 0; i < 9; i++) {
            int holds = i % 2 == 0 ? 0 : 60;
            int toll = i % 3 == 0 ? 0 : 9;
            c.given(x, "build(" + holds + ", " + toll + ")", x.build(holds, toll), i);
            c.due("HOLDS", x.arch(i, 0), holds);
            c.due("MOSS", x.arch(i, 1), 0);
            c.due("TOLL", x.arch(i, 2), toll);
            c.due("it is not TROD", x.told(8), 0);
        }
        c.refused(x, "a tenth", x.build(0, 0), 4);
        c.due("ARCHES", x.told(0), 9);
        LeapArches y = Check.withViaduct("arch holds 3;");
        y.mark();
        y.build(5, 5);
        y.day(9);
        y.jump(1);
        y.undo();
        c.given(y, "one that is built where another was", y.build(6, 6), 1);
        c.due("it is new", y.arch(1, 0) * 100 + y.arch(1, 1) * 10 + y.arch(1, 2), 606);
        c.due("TROD", y.told(8), 0);
    }

    private static void theEighthAndTheNinth(Check c) {
        c.promise(25, "One PLANT more (SIZE 1 to 30, JOY 0 to 99): its number (1; 4: a ninth).");
        LeapArches x = new LeapArches();
        for (int i = 0; i < 8; i++) {
            int size = i % 2 == 0 ? 1 : 30;
            int joy = i % 3 == 0 ? 0 : 99;
            c.given(x, "sow(" + size + ", " + joy + ")", x.sow(size, joy), i);
            c.due("SIZE", x.plant(i, 0), size);
            c.due("JOY", x.plant(i, 1), joy);
        }
        c.refused(x, "a ninth", x.sow(1, 0), 4);
        c.due("PLANTS", x.told(2), 8);
    }

    private static void rulesFromNowOn(Check c) {
        c.promise(26, "NET (what 3: 0 to 9), FOG (4: 0 to 5), ODDS (5: 0 to 16) from now on");
        int[] most = {9, 5, 16};
        LeapArches x = Check.withViaduct("arch holds 9;arch holds 9;arch holds 1;person a weight 4;");
        for (int what = 3; what <= 5; what++) {
            for (int v = most[what - 3]; v >= 0; v--) {
                c.given(x, "rule(" + what + ", " + v + ")", x.rule(what, v));
                c.due("told(" + what + ")", x.told(what), v);
            }
            c.refused(x, "one less", x.rule(what, -1), 1);
            c.refused(x, "one more", x.rule(what, most[what - 3] + 1), 1);
            c.due("as it was", x.told(what), 0);
        }
        c.given(x, "by NET 0 he falls", x.run(0), 0);
        x.rule(3, 1);
        c.given(x, "by NET 1", x.run(0), 1);
        x.home(0);
        x.rule(4, 5);
        c.given(x, "by FOG 5: 9 of 9", x.run(0), 1);
        x.teach(0, 0, 5);
        x.home(0);
        c.given(x, "by FOG 5: 10 of 9", x.run(0), 0);
        x.rule(4, 4);
        x.rule(5, 16);
        c.fraction(x, "by ODDS 16", x.hope(0, 1), 0, 1);
        x.rule(5, 0);
        c.fraction(x, "by ODDS 0", x.hope(0, 1), 1, 1);
    }
}
