/** Promises 17 to 26: run(), rope(), jump(), home(), day(), teach(), come(), build(), sow(), rule(). */
public final class DeedsTest {
    public static void main(String[] args) {
        Check c = new Check("DeedsTest");
        runningOver(c);
        runningTillAnArchDoesNotBear(c);
        fallingOnlyWithDoubtAndAboveTheNet(c);
        roping(c);
        ropedPeopleFallByTheirOwnDoubt(c);
        jumping(c);
        goingHome(c);
        daysGoBy(c);
        theLastDay(c);
        teaching(c);
        coming(c);
        building(c);
        sowing(c);
        ruling(c);
        c.end();
    }

    private static void runningOver(Check c) {
        LeapArches x = Check.withViaduct("arch holds 5 toll 2;arch holds 6 toll 3;arch holds 5 toll 0;person a weight 5;person b weight 5 at 1;person d weight 6 at 3;");
        c.due("run(0)", x.run(0), 3);
        c.due("status()", x.status(), 0);
        c.due("PAID", x.person(0, 4), 5);
        c.due("TROD", x.told(8), 7);
        c.due("FELL", x.person(0, 5), 0);
        c.refused(x, "run(0), OVER", x.run(0), 7);
        c.refused(x, "run(2), OVER", x.run(2), 7);
        c.due("run(1)", x.run(1), 3);
        c.due("PAID from where he was", x.person(1, 4), 3);
        c.due("PAID by all", x.told(9), 8);
        c.due("OVER", x.told(7), 7);
        c.refused(x, "run(3)", x.run(3), 1);
        c.refused(x, "run(-1)", x.run(-1), 1);
    }

    private static void runningTillAnArchDoesNotBear(Check c) {
        LeapArches x = Check.withViaduct("net 9;arch holds 9;arch holds 9;arch holds 4;person a weight 5;");
        c.due("run(0)", x.run(0), 2);
        c.due("TROD", x.told(8), 3);
        c.due("PAID", x.told(9), 2);
        c.due("run(0) again, no further", x.run(0), 2);
        c.due("PAID", x.told(9), 2);
        c.due("FELL", x.person(0, 5), 0);
        c.due("OVER", x.told(7), 0);
    }

    private static void fallingOnlyWithDoubtAndAboveTheNet(Check c) {
        String arches = "arch holds 9;arch holds 9;arch holds 9;arch holds 2;";
        LeapArches x = Check.withViaduct("net 2;" + arches + "person a weight 5;person b weight 5 doubt 0;person d weight 5 at 2;");
        c.due("run(0), falls to the net", x.run(0), 2);
        c.due("PAID all the same", x.person(0, 4), 3);
        c.due("FELL", x.person(0, 5), 1);
        c.due("TROD", x.told(8), 7);
        c.due("run(1), no DOUBT", x.run(1), 3);
        c.due("FELL", x.person(1, 5), 0);
        c.due("run(2)", x.run(2), 2);
        c.due("run(2)", x.run(2), 2);
        c.due("FELL", x.person(2, 5), 2);
        LeapArches y = Check.withViaduct("net 3;" + arches + "person a weight 5;");
        c.due("run(0), as many as NET", y.run(0), 3);
        c.due("FELL", y.person(0, 5), 0);
        LeapArches z = Check.withViaduct("net 0;" + arches + "person a weight 5 at 3;");
        c.due("run(0), falls from where he is", z.run(0), 0);
        c.due("PAID", z.person(0, 4), 0);
        c.due("FELL", z.person(0, 5), 1);
        LeapArches over = Check.withViaduct("net 0;arch holds 9;person a weight 9;");
        c.due("run(0), who is OVER does not fall", over.run(0), 1);
        c.due("FELL", over.person(0, 5), 0);
    }

    private static void roping(Check c) {
        // STRAIN of both: 9 + 3 - 1 - 2 + 1 * (MOSS + 1) = 10 + MOSS
        LeapArches x = Check.withViaduct("fog 1;net 9;arch holds 10 toll 4;arch holds 11 moss 1 toll 2;arch holds 10 moss 1;"
            + "person a weight 7 doubt 5 love 1;person b weight 9 doubt 1 love 2;person d weight 1 at 1;person e weight 1 at 3;person f weight 1 at 3;");
        c.due("rope(0, 1)", x.rope(0, 1), 2);
        c.due("status()", x.status(), 0);
        c.due("AT", x.person(0, 3), 2);
        c.due("AT", x.person(1, 3), 2);
        c.due("PAID by the first", x.person(0, 4), 6);
        c.due("PAID by the second", x.person(1, 4), 0);
        c.due("TROD", x.told(8), 3);
        c.due("rope(1, 0), no ARCH gone over", x.rope(1, 0), 0);
        c.due("status()", x.status(), 0);
        c.refused(x, "rope(0, 2), not AT as many", x.rope(0, 2), 7);
        c.refused(x, "rope(3, 4), OVER", x.rope(3, 4), 7);
        c.refused(x, "rope(0, 0)", x.rope(0, 0), 1);
        c.refused(x, "rope(0, 5)", x.rope(0, 5), 1);
        c.refused(x, "rope(-1, 0)", x.rope(-1, 0), 1);
    }

    private static void ropedPeopleFallByTheirOwnDoubt(Check c) {
        LeapArches x = Check.withViaduct("net 1;arch holds 9;arch holds 9;arch holds 9;arch holds 1;person a weight 4;person b weight 4 doubt 0;");
        c.due("rope(1, 0)", x.rope(1, 0), 3);
        c.due("AT", x.person(0, 3), 1);
        c.due("AT", x.person(1, 3), 3);
        c.due("FELL", x.person(0, 5), 1);
        c.due("FELL", x.person(1, 5), 0);
        c.due("PAID", x.person(1, 4), 3);
        c.refused(x, "rope(1, 0)", x.rope(1, 0), 7);
        LeapArches y = Check.withViaduct("net 0;arch holds 9;arch holds 0;person a weight 4;person b weight 3;");
        c.due("rope(0, 1)", y.rope(0, 1), 1);
        c.due("both FELL", y.person(0, 5) + y.person(1, 5), 2);
        c.due("AT", y.person(0, 3) + y.person(1, 3), 0);
        LeapArches z = Check.withViaduct("net 0;arch holds 9;arch holds 9;person a weight 4;person b weight 3;");
        c.due("rope(0, 1)", z.rope(0, 1), 2);
        c.due("nobody FELL", z.person(0, 5) + z.person(1, 5), 0);
        c.due("OVER", z.told(7), 3);
    }

    private static void jumping(Check c) {
        LeapArches x = Check.withViaduct("arch holds 58 moss 1;arch holds 60 moss 2;arch holds 60;");
        c.due("jump(0)", x.jump(0), 59);
        c.due("MOSS", x.arch(0, 1), 0);
        c.due("TROD", x.told(8), 1);
        c.due("jump(0)", x.jump(0), 60);
        c.due("MOSS", x.arch(0, 1), 0);
        c.refused(x, "jump(0)", x.jump(0), 7);
        c.due("jump(1)", x.jump(1), 60);
        c.due("MOSS", x.arch(1, 1), 1);
        c.due("jump(1)", x.jump(1), 60);
        c.refused(x, "jump(1)", x.jump(1), 7);
        c.refused(x, "jump(2)", x.jump(2), 7);
        c.due("TROD", x.told(8), 3);
        c.refused(x, "jump(3)", x.jump(3), 1);
        c.refused(x, "jump(-1)", x.jump(-1), 1);
    }

    private static void goingHome(Check c) {
        LeapArches x = Check.withViaduct("arch holds 9;arch holds 9;person a weight 3 at 2;person b weight 3;");
        c.due("home(0)", x.home(0), 2);
        c.due("AT", x.person(0, 3), 0);
        c.refused(x, "home(0)", x.home(0), 7);
        c.refused(x, "home(1)", x.home(1), 7);
        c.refused(x, "home(2)", x.home(2), 1);
        c.refused(x, "home(-1)", x.home(-1), 1);
        c.due("FELL", x.person(0, 5), 0);
        c.due("TROD", x.told(8), 0);
    }

    private static void daysGoBy(Check c) {
        LeapArches x = Check.withViaduct("arch holds 9 moss 4;arch holds 9 moss 8;arch holds 9;person a weight 3;");
        x.jump(0);
        x.jump(2);
        c.due("day(1): 3 - 1, 8 + 1, 0", x.day(1), 11);
        c.due("TROD", x.told(8), 0);
        c.due("DAY", x.told(6), 1);
        c.due("MOSS", x.arch(0, 1), 2);
        c.due("MOSS", x.arch(1, 1), 9);
        c.due("MOSS", x.arch(2, 1), 0);
        c.due("day(1): it grows again", x.day(1), 13);
        x.run(0);
        c.due("TROD: 3 + 3 of 10, 3 + 9 of 9", x.told(8), 1);
        x.teach(0, 1, 0);
        x.run(0);
        c.due("TROD", x.told(8), 7);
        c.due("day(3): 3 - 1 + 2, 9 - 1 + 1 (9 at most), 1 - 1 + 2", x.day(3), 15);
        c.due("day(99)", x.day(99), 27);
        c.due("DAY", x.told(6), 104);
        c.refused(x, "day(0)", x.day(0), 1);
        c.refused(x, "day(100)", x.day(100), 1);
        c.refused(x, "day(-1)", x.day(-1), 1);
        c.due("DAY", x.told(6), 104);
    }

    private static void theLastDay(Check c) {
        LeapArches x = Check.withViaduct("arch holds 9;");
        for (int i = 0; i < 100; i++) {
            x.day(99);
        }
        x.day(98);
        c.due("DAY", x.told(6), 9998);
        x.jump(0);
        c.refused(x, "day(2)", x.day(2), 4);
        c.due("DAY, as it was", x.told(6), 9998);
        c.due("TROD, as it was", x.told(8), 1);
        c.due("day(1)", x.day(1), 7);
        c.refused(x, "day(1)", x.day(1), 4);
        c.refused(x, "day(100), no number first", x.day(100), 1);
        c.due("mossIn(0, 40): the last DAY does not matter", x.mossIn(0, 40), 9);
    }

    private static void teaching(Check c) {
        LeapArches x = Check.withViaduct("arch holds 9;person a weight 3;person b weight 4;");
        int[][] edges = {{1, 40}, {0, 9}, {0, 9}};
        for (int what = 0; what < 3; what++) {
            c.due("teach(1, " + what + ", ..)", x.teach(1, what, edges[what][0]), true);
            c.due("person(1, " + what + ")", x.person(1, what), edges[what][0]);
            c.due("teach(1, " + what + ", ..)", x.teach(1, what, edges[what][1]), true);
            c.due("status()", x.status(), 0);
            c.refused(x, "teach, too little", x.teach(1, what, edges[what][0] - 1), 1);
            c.refused(x, "teach, too much", x.teach(1, what, edges[what][1] + 1), 1);
            c.due("person(1, " + what + ")", x.person(1, what), edges[what][1]);
        }
        c.due("another's WEIGHT", x.person(0, 0), 3);
        c.refused(x, "teach(2, 0, 3)", x.teach(2, 0, 3), 1);
        c.refused(x, "teach(-1, 0, 3)", x.teach(-1, 0, 3), 1);
        c.refused(x, "teach(0, 3, 3)", x.teach(0, 3, 3), 1);
        c.refused(x, "teach(0, -1, 3)", x.teach(0, -1, 3), 1);
    }

    private static void coming(Check c) {
        LeapArches x = Check.withViaduct("arch holds 9;person a weight 3 doubt 4 love 5 at 1;");
        x.home(0);
        c.due("come(40)", x.come(40), 1);
        int[] fresh = {40, 1, 0, 0, 0, 0};
        for (int what = 0; what < 6; what++) {
            c.due("person(1, " + what + ")", x.person(1, what), fresh[what]);
        }
        c.due("come(1)", x.come(1), 2);
        c.refused(x, "come(0)", x.come(0), 1);
        c.refused(x, "come(41)", x.come(41), 1);
        c.due("come", x.come(2) + x.come(2) + x.come(2), 12);
        c.refused(x, "come(2), a seventh", x.come(2), 4);
        c.refused(x, "come(0), no number first", x.come(0), 1);
        c.due("PEOPLE", x.told(1), 6);
        c.decadesFault(x, "run b;", 3, 4);
    }

    private static void building(Check c) {
        LeapArches x = Check.withViaduct("arch holds 9 moss 9 toll 9;person a weight 3 at 1;");
        c.due("OVER", x.told(7), 1);
        c.due("build(60, 9)", x.build(60, 9), 1);
        c.due("OVER", x.told(7), 0);
        c.due("HOLDS", x.arch(1, 0), 60);
        c.due("MOSS", x.arch(1, 1), 0);
        c.due("TOLL", x.arch(1, 2), 9);
        c.due("build(0, 0)", x.build(0, 0), 2);
        c.refused(x, "build(-1, 0)", x.build(-1, 0), 1);
        c.refused(x, "build(61, 0)", x.build(61, 0), 1);
        c.refused(x, "build(0, -1)", x.build(0, -1), 1);
        c.refused(x, "build(0, 10)", x.build(0, 10), 1);
        for (int i = 3; i < 9; i++) {
            c.due("build(5, 1)", x.build(5, 1), i);
        }
        c.refused(x, "build(5, 1), a tenth", x.build(5, 1), 4);
        c.refused(x, "build(61, 1), no number first", x.build(61, 1), 1);
        c.due("ARCHES", x.told(0), 9);
    }

    private static void sowing(Check c) {
        LeapArches x = new LeapArches();
        c.due("sow(1, 0)", x.sow(1, 0), 0);
        c.due("sow(30, 99)", x.sow(30, 99), 1);
        c.due("SIZE", x.plant(1, 0), 30);
        c.due("JOY", x.plant(1, 1), 99);
        c.refused(x, "sow(0, 0)", x.sow(0, 0), 1);
        c.refused(x, "sow(31, 0)", x.sow(31, 0), 1);
        c.refused(x, "sow(1, -1)", x.sow(1, -1), 1);
        c.refused(x, "sow(1, 100)", x.sow(1, 100), 1);
        for (int i = 2; i < 8; i++) {
            c.due("sow(2, 2)", x.sow(2, 2), i);
        }
        c.refused(x, "sow(2, 2), a ninth", x.sow(2, 2), 4);
        c.refused(x, "sow(0, 2), no number first", x.sow(0, 2), 1);
        c.due("PLANTS", x.told(2), 8);
    }

    private static void ruling(Check c) {
        LeapArches x = new LeapArches();
        int[] most = {9, 5, 16};
        for (int what = 3; what < 6; what++) {
            c.due("rule(" + what + ", ..)", x.rule(what, most[what - 3]), true);
            c.due("status()", x.status(), 0);
            c.refused(x, "rule, too much", x.rule(what, most[what - 3] + 1), 1);
            c.refused(x, "rule, too little", x.rule(what, -1), 1);
            c.due("told(" + what + ")", x.told(what), most[what - 3]);
        }
        c.due("rule(3, 0)", x.rule(3, 0), true);
        c.due("told(3)", x.told(3), 0);
        c.due("told(4)", x.told(4), 5);
        c.due("rule(4, 0)", x.rule(4, 0), true);
        c.due("rule(5, 0)", x.rule(5, 0), true);
        c.due("told(4)", x.told(4), 0);
        c.due("told(5)", x.told(5), 0);
        c.refused(x, "rule(2, 0)", x.rule(2, 0), 1);
        c.refused(x, "rule(6, 0)", x.rule(6, 0), 1);
        c.refused(x, "rule(-1, 0)", x.rule(-1, 0), 1);
    }
}
