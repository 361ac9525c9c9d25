/** Promises 38 to 42: most(), cheapest(), mate(), mends(), mendsAt(). */
public final class GroupsTest {
    public static void main(String[] args) {
        Check c = new Check("GroupsTest");
        mostPeople(c);
        cheapestGroups(c);
        matesByPeople(c);
        matesWithoutTolls(c);
        wrongSets(c);
        mending(c);
        mendingThatCannotBe(c);
        c.end();
    }

    private static void mostPeople(Check c) {
        LeapArches x = new LeapArches();
        c.due("most() without PEOPLE", x.most(), 0);
        x.come(40);
        c.due("most() without ARCHES", x.most(), 1);
        // Alone a (12) and b (11) are not borne; with d, who has LOVE 9: 12 + 2 - 9 = 5, 11 + 2 - 9 = 4.
        LeapArches y = Check.withViaduct("arch holds 10;person a weight 12 doubt 0;person b weight 11 doubt 0;person d weight 5 doubt 0 love 9 at 1;");
        c.due("most(): a or b goes with d", y.most(), 2);
        c.due("status()", y.status(), 0);
        y.come(1);
        c.due("most(): and one alone", y.most(), 3);
        y.teach(3, 2, 9);
        c.due("most(): a and b, each with one of them", y.most(), 4);
        y.rule(4, 5);
        y.teach(0, 1, 9);
        c.due("most(): the lesser DOUBT of two", y.most(), 4);
    }

    private static void cheapestGroups(Check c) {
        // All TOLLS 7. STRAIN of two: a b 6 + 2 = 8, a d 9, a e 6, b d 8, b e 5, d e 6.
        LeapArches x = Check.withViaduct("arch holds 8 toll 3;arch holds 9 toll 4;"
            + "person a weight 6 doubt 0;person b weight 5 doubt 0;person d weight 6 doubt 0;person e weight 1 doubt 0;");
        c.due("cheapest(0)", x.cheapest(0), 0);
        c.due("cheapest(1)", x.cheapest(1), 7);
        c.due("cheapest(a b)", x.cheapest(3), 7);
        c.due("cheapest(a d): 6 + 3 is too much", x.cheapest(5), 14);
        c.due("cheapest(a b d)", x.cheapest(7), 14);
        c.due("cheapest(all)", x.cheapest(15), 14);
        c.due("status()", x.status(), 0);
        x.teach(0, 0, 9);
        c.refused(x, "cheapest(a)", x.cheapest(1), 6);
        c.refused(x, "cheapest(a e)", x.cheapest(9), 6);
        x.teach(3, 2, 1);
        c.due("cheapest(a e): 9 + 0 - 1", x.cheapest(9), 7);
        c.due("cheapest(all): a e, b d", x.cheapest(15), 14);
        c.refused(x, "cheapest(a b d)", x.cheapest(7), 6);
    }

    private static void matesByPeople(Check c) {
        LeapArches x = Check.withViaduct("arch holds 8 toll 3;arch holds 9 toll 4;"
            + "person a weight 6 doubt 0;person b weight 5 doubt 0;person d weight 6 doubt 0;person e weight 1 doubt 0;");
        int[] all = {1, 0, 3, 2};
        for (int i = 0; i < 4; i++) {
            c.due("mate(15, " + i + ")", x.mate(15, i), all[i]);
        }
        c.due("mate(a b d, a): alone is least", x.mate(7, 0), 0);
        c.due("mate(a b d, b)", x.mate(7, 1), 2);
        c.due("mate(a b d, d)", x.mate(7, 2), 1);
        c.due("mate(b e, e)", x.mate(10, 3), 1);
        c.due("mate(a d, d)", x.mate(5, 2), 2);
        c.due("status()", x.status(), 0);
        x.teach(0, 0, 9);
        c.refused(x, "mate(15, 1)", x.mate(15, 1), 6);
    }

    private static void matesWithoutTolls(Check c) {
        LeapArches x = Check.withViaduct("arch holds 8 toll 0;person a weight 2 doubt 0;person b weight 9 doubt 0;person d weight 2 doubt 0 love 5;person e weight 3 doubt 0 love 5;");
        c.due("cheapest(15)", x.cheapest(15), 0);
        c.due("mate(15, a): alone costs no more", x.mate(15, 0), 0);
        c.due("mate(15, b): not alone", x.mate(15, 1), 2);
        c.due("mate(15, e)", x.mate(15, 3), 3);
        LeapArches y = Check.withViaduct("arch holds 60 toll 1;person a weight 1;person b weight 1;person d weight 1;person e weight 1;person f weight 1;person g weight 1;");
        int[] all = {1, 0, 3, 2, 5, 4};
        int[] five = {0, 2, 1, 4, 3};
        for (int i = 0; i < 6; i++) {
            c.due("mate(63, " + i + ")", y.mate(63, i), all[i]);
        }
        for (int i = 0; i < 5; i++) {
            c.due("mate(31, " + i + ")", y.mate(31, i), five[i]);
        }
    }

    private static void wrongSets(Check c) {
        LeapArches x = Check.withViaduct("arch holds 8;person a weight 2;person b weight 9;");
        c.refused(x, "cheapest(4)", x.cheapest(4), 1);
        c.refused(x, "cheapest(-1)", x.cheapest(-1), 1);
        c.refused(x, "cheapest(MIN)", x.cheapest(Integer.MIN_VALUE), 1);
        c.refused(x, "mate(4, 0)", x.mate(4, 0), 1);
        c.refused(x, "mate(2, 0), who is not in it", x.mate(2, 0), 1);
        c.refused(x, "mate(0, 0)", x.mate(0, 0), 1);
        c.refused(x, "mate(1, 2)", x.mate(1, 2), 1);
        c.refused(x, "mate(1, -1)", x.mate(1, -1), 1);
        c.refused(x, "mate(1, 32)", x.mate(1, 32), 1);
        c.refused(x, "mate(-1, 0)", x.mate(-1, 0), 1);
        c.refused(x, "mends(4)", x.mends(4), 1);
        c.refused(x, "mends(-1)", x.mends(-1), 1);
        c.refused(x, "mendsAt(4, 0)", x.mendsAt(4, 0), 1);
        c.refused(x, "mendsAt(-1, 0)", x.mendsAt(-1, 0), 1);
        c.refused(x, "mendsAt(1, 1)", x.mendsAt(1, 1), 1);
        c.refused(x, "mendsAt(1, -1)", x.mendsAt(1, -1), 1);
    }

    private static void mending(Check c) {
        // a on 0: 10 + 3 * 2 = 16 of 8: a JUMP brings 4, then 4; then 8 - 2 JUMPS: 10 of 10.
        LeapArches x = Check.withViaduct("arch holds 8 moss 2;arch holds 9 moss 1;arch holds 30;person a weight 10 doubt 3 at 3;person b weight 12 doubt 0;person d weight 20 doubt 0 love 9;");
        c.due("mendsAt(a, 0)", x.mendsAt(1, 0), 2);
        c.due("mendsAt(a, 1)", x.mendsAt(1, 1), 1);
        c.due("mendsAt(a, 2)", x.mendsAt(1, 2), 0);
        c.due("mends(a)", x.mends(1), 3);
        c.due("mends(b)", x.mends(2), 7);
        c.due("mends(d)", x.mends(4), 5);
        c.due("mendsAt(a b, 0)", x.mendsAt(3, 0), 4);
        c.due("mends(a b)", x.mends(3), 7);
        c.due("mends(0)", x.mends(0), 0);
        c.due("mendsAt(0, 0)", x.mendsAt(0, 0), 0);
        c.due("status()", x.status(), 0);
        c.due("nothing is changed", x.arch(0, 0) * 10 + x.arch(0, 1), 82);
    }

    private static void mendingThatCannotBe(Check c) {
        // a: 40 + 9 FOG: 58 by 2, 67 by 3.
        LeapArches x = Check.withViaduct("fog 2;arch holds 60;arch holds 0 moss 9;person a weight 40 doubt 9;person b weight 1 doubt 0;");
        c.due("mends(a)", x.mends(1), 58);
        c.due("mendsAt(a, 1)", x.mendsAt(1, 1), 58);
        x.rule(4, 3);
        c.refused(x, "mends(a)", x.mends(1), 6);
        c.refused(x, "mendsAt(a, 0)", x.mendsAt(1, 0), 6);
        c.refused(x, "mends(a b)", x.mends(3), 6);
        c.due("mends(b)", x.mends(2), 1);
        LeapArches z = Check.withViaduct("fog 4;arch holds 0 moss 9;person a weight 24 doubt 9;");
        c.due("mends, as many as can be: 24 + 36", z.mends(1), 60);
        z.teach(0, 0, 25);
        c.refused(z, "mends", z.mends(1), 6);
        LeapArches y = Check.withViaduct("arch holds 60 moss 9;person a weight 24 doubt 9;");
        c.due("mends, 60 is held all along: 24 + 36", y.mends(1), 5);
    }
}
