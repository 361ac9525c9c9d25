/** The edges of promises 38 to 42: who with whom, and MENDS. */
public final class GroupEdgesTest {
    private static final String[] NAMES = {"a", "b", "d", "e", "f", "g"};

    public static void main(String[] args) {
        Check c = new Check("GroupEdgesTest");
        mostOfNobodyAndOfAll(c);
        mostInPairs(c);
        borneByAllArches(c);
        cheapestOfNobody(c);
        cheapestOfAll(c);
        cheapestWithoutTolls(c);
        matesOfOneAndOfSix(c);
        matesThatMustBeOthers(c);
        matesOfSetsWithGaps(c);
        mendsOfNobody(c);
        mendsOfAsMuchAsCanBe(c);
        mendsByMoss(c);
        mendsOfSeveral(c);
        c.end();
    }

    private static String people(int many, String rest) {
        StringBuilder s = new StringBuilder();
        for (int i = 0; i < many; i++) {
            s.append("person ").append(NAMES[i]).append(rest);
        }
        return s.toString();
    }

    private static void mostOfNobodyAndOfAll(Check c) {
        c.promise(38, "MOST: the most PEOPLE who can be in GROUPS that are well, each in one.");
        LeapArches x = new LeapArches();
        c.given(x, "nobody, no ARCH", x.most(), 0);
        x.build(0, 0);
        c.given(x, "nobody", x.most(), 0);
        for (int many = 1; many <= 6; many++) {
            LeapArches none = Check.withViaduct(people(many, " weight 40 doubt 9;"));
            c.given(none, many + " without ARCHES", none.most(), many);
            LeapArches alone = Check.withViaduct("arch holds 2;" + people(many, " weight 2 doubt 0;"));
            c.given(alone, many + " alone: 2 of 2, together 3", alone.most(), many);
            alone.teach(0, 0, 3);
            c.given(alone, many + ", of whom one can't", alone.most(), many - 1);
            LeapArches stuck = Check.withViaduct("arch holds 1;" + people(many, " weight 2 doubt 0;"));
            c.given(stuck, many + " of whom none can", stuck.most(), 0);
        }
    }

    private static void mostInPairs(Check c) {
        c.promise(38, "PEOPLE go alone or with one other by a ROPE");
        for (int many = 1; many <= 6; many++) {
            LeapArches x = Check.withViaduct("arch holds 0;" + people(many, " weight 10 doubt 0 love 9;"));
            c.given(x, many + " alone: 1 of 0; two: 10 + 5 - 18", x.most(), many - many % 2);
            x.jump(0);
            c.given(x, many + " alone: 1 of 1", x.most(), many);
        }
        // Alone 5 + 9 = 14 of 10; two 5 + 2 + 0 with b, who has no DOUBT.
        LeapArches y = Check.withViaduct("arch holds 10 moss 9;person a weight 5;person b weight 5 doubt 0;person d weight 5;");
        c.given(y, "one of two goes with b", y.most(), 2);
        y.teach(2, 1, 0);
        c.given(y, "a with b, d alone", y.most(), 3);
    }

    private static void borneByAllArches(Check c) {
        c.promise(38, "all from no ARCH on; a GROUP is well that is borne by all ARCHES");
        for (int weak = 0; weak < 9; weak++) {
            LeapArches x = Check.withViaduct("arch holds 7;".repeat(weak) + "arch holds 6;" + "arch holds 7;".repeat(8 - weak)
                + "person a weight 7 doubt 0 at 9;person b weight 6 doubt 0;");
            c.given(x, "ARCH " + weak + " does not bear a, who has all behind him", x.most(), 1);
            c.refused(x, "cheapest(1)", x.cheapest(1), 6);
            c.given(x, "cheapest(2)", x.cheapest(2), 9);
            x.jump(weak);
            c.given(x, "a JUMP later", x.most(), 2);
        }
    }

    private static void cheapestOfNobody(Check c) {
        c.promise(39, "CHEAPEST of a set: all of it in GROUPS that are well so that TOLLS (all, once for each GROUP) together are the least.");
        LeapArches x = new LeapArches();
        c.given(x, "nobody, nothing", x.cheapest(0), 0);
        c.refused(x, "a set of one who is none", x.cheapest(1), 1);
        LeapArches y = Check.withViaduct("arch holds 0 toll 9;" + people(6, " weight 40;"));
        c.given(y, "nobody, where none can go", y.cheapest(0), 0);
        c.refused(y, "all of whom none can go", y.cheapest(63), 6);
        c.refused(y, "a set of 64", y.cheapest(64), 1);
        c.refused(y, "a set below 0", y.cheapest(-1), 1);
        LeapArches none = Check.withViaduct(people(6, " weight 40;"));
        c.given(none, "all without ARCHES", none.cheapest(63), 0);
    }

    private static void cheapestOfAll(Check c) {
        c.promise(39, "(all, once for each GROUP)");
        for (int many = 1; many <= 6; many++) {
            int all = (1 << many) - 1;
            LeapArches alone = Check.withViaduct("arch holds 2 toll 9;".repeat(9) + people(many, " weight 2 doubt 0;"));
            c.given(alone, many + " alone", alone.cheapest(all), 81 * many);
            LeapArches pairs = Check.withViaduct("arch holds 3 toll 9;".repeat(9) + people(many, " weight 2 doubt 0;"));
            c.given(pairs, many + " in pairs", pairs.cheapest(all), 81 * ((many + 1) / 2));
        }
        LeapArches unlike = Check.withViaduct("arch holds 3 toll 0;arch holds 3 toll 9;arch holds 3;person a weight 1;");
        c.given(unlike, "TOLLS of 0, 9 and 1", unlike.cheapest(1), 10);
    }

    private static void cheapestWithoutTolls(Check c) {
        c.promise(39, "(1; 6: it can't be)");
        LeapArches x = Check.withViaduct("arch holds 3 toll 0;" + people(3, " weight 2 doubt 0;"));
        c.given(x, "it can be for nothing", x.cheapest(7), 0);
        x.teach(2, 0, 4);
        c.refused(x, "it can't be, for all that: 4, 4 + 1", x.cheapest(7), 6);
        c.given(x, "the others", x.cheapest(3), 0);
        c.refused(x, "he alone", x.cheapest(4), 6);
    }

    private static void mates(Check c, LeapArches x, int set, int... want) {
        for (int i = 0; i < want.length; i++) {
            if (want[i] >= 0) {
                c.given(x, "mate(" + set + ", " + i + ")", x.mate(set, i), want[i]);
            } else {
                c.refused(x, "mate(" + set + ", " + i + ")", x.mate(set, i), 1);
            }
        }
    }

    private static void matesOfOneAndOfSix(Check c) {
        c.promise(40, "each with him of the least number (one alone: with himself)");
        LeapArches x = Check.withViaduct("arch holds 3;" + people(6, " weight 2 doubt 0;"));
        for (int i = 0; i < 6; i++) {
            c.given(x, "one alone", x.mate(1 << i, i), i);
        }
        mates(c, x, 63, 1, 0, 3, 2, 5, 4);
        mates(c, x, 31, 0, 2, 1, 4, 3, -1);
        mates(c, x, 3, 1, 0, -1, -1, -1, -1);
        mates(c, x, 7, 0, 2, 1, -1, -1, -1);
        mates(c, x, 48, -1, -1, -1, -1, 5, 4);
        LeapArches free = Check.withViaduct("arch holds 3 toll 0;" + people(6, " weight 2 doubt 0;"));
        mates(c, free, 63, 0, 1, 2, 3, 4, 5);
        LeapArches alone = Check.withViaduct("arch holds 2;" + people(6, " weight 2 doubt 0;"));
        mates(c, alone, 63, 0, 1, 2, 3, 4, 5);
    }

    private static void matesThatMustBeOthers(Check c) {
        c.promise(40, "of all ways by which it is the cheapest that by PEOPLE");
        // Well: a with b (4), with e (10); b alone, with all; d (18) with b alone (10); e alone.
        LeapArches x = Check.withViaduct("arch holds 10;person a weight 12 doubt 0;person b weight 2 doubt 0 love 9;person d weight 18 doubt 0;person e weight 2 doubt 0 love 3;");
        mates(c, x, 15, 3, 2, 1, 0);
        mates(c, x, 3, 1, 0, -1, -1);
        mates(c, x, 9, 3, -1, -1, 0);
        mates(c, x, 11, 1, 0, -1, 3);
        c.refused(x, "a and d can't be", x.mate(5, 0), 6);
        c.refused(x, "nor d of a, b, d", x.mate(7, 2), 6);
        // By TOLLS of 0 a goes alone where he can.
        LeapArches y = Check.withViaduct("arch holds 10 toll 0;person a weight 9 doubt 0;person b weight 11 doubt 0;person d weight 1 doubt 0 love 2;");
        mates(c, y, 7, 0, 2, 1);
        y.teach(0, 0, 11);
        c.refused(y, "both need d", y.mate(7, 0), 6);
    }

    private static void matesOfSetsWithGaps(Check c) {
        c.promise(40, "MATES of a set: with whom a PERSON of it goes (1: none of the set, too; 6).");
        LeapArches x = Check.withViaduct("arch holds 3;" + people(6, " weight 2 doubt 0;"));
        mates(c, x, 42, -1, 1, -1, 5, -1, 3);
        mates(c, x, 33, 5, -1, -1, -1, -1, 0);
        mates(c, x, 0, -1, -1, -1, -1, -1, -1);
        c.refused(x, "no PERSON", x.mate(63, 6), 1);
        c.refused(x, "no PERSON", x.mate(63, -1), 1);
        c.refused(x, "a number that wraps around", x.mate(63, 32), 1);
        c.refused(x, "a set of 64", x.mate(64, 0), 1);
    }

    private static void mendsOfNobody(Check c) {
        c.promise(41, "the fewest JUMPS by which all ARCHES BEAR each PERSON of it (alone)");
        LeapArches x = new LeapArches();
        c.given(x, "nobody, nothing", x.mends(0), 0);
        LeapArches y = Check.withViaduct("fog 5;arch holds 0 moss 9;arch holds 60;" + people(6, " weight 40 doubt 9;"));
        c.given(y, "nobody", y.mends(0), 0);
        c.refused(y, "all, whom none can bear", y.mends(63), 6);
        c.promise(42, "MENDS: how many of them on an ARCH (1; 6).");
        c.given(y, "nobody, on the first", y.mendsAt(0, 0), 0);
        c.given(y, "nobody, on the last", y.mendsAt(0, 1), 0);
        c.refused(y, "behind the last", y.mendsAt(0, 2), 1);
        LeapArches none = Check.withViaduct(people(6, " weight 40 doubt 9;"));
        c.given(none, "all without ARCHES", none.mends(63), 0);
        c.refused(none, "on no ARCH", none.mendsAt(63, 0), 1);
    }

    private static void mendsOfAsMuchAsCanBe(Check c) {
        c.promise(41, "(1; 6: by none: an ARCH can't HOLD so much)");
        for (int holds : new int[] {0, 1, 59, 60}) {
            LeapArches x = Check.withViaduct("fog 5;arch holds " + holds + ";person a weight 40 doubt 4;");
            c.given(x, "40 + 20, from " + holds, x.mends(1), 60 - holds);
            c.given(x, "on it", x.mendsAt(1, 0), 60 - holds);
            x.teach(0, 0, 36);
            x.teach(0, 1, 5);
            c.refused(x, "36 + 25, from " + holds, x.mends(1), 6);
            c.refused(x, "on it", x.mendsAt(1, 0), 6);
            x.teach(0, 2, 1);
            c.given(x, "36 - 1 + 25", x.mends(1), 60 - holds);
        }
        LeapArches nine = Check.withViaduct("fog 5;" + "arch holds 0;".repeat(9) + "person a weight 40 doubt 4;");
        c.given(nine, "sixty on each of nine", nine.mends(1), 540);
        c.promise(42, "(1; 6)");
        LeapArches other = Check.withViaduct("fog 5;arch holds 60;arch holds 60 moss 1;person a weight 36 doubt 5;person b weight 1 doubt 0;");
        c.refused(other, "who can't be borne at all", other.mendsAt(1, 1), 6);
        c.given(other, "another set", other.mendsAt(2, 1), 0);
    }

    private static void mendsByMoss(Check c) {
        c.promise(41, "MENDS: how many JUMPS");
        // 1 + 9 (9 - j) of j: j is 9; by DOUBT 0 one is enough.
        LeapArches x = Check.withViaduct("arch holds 0 moss 9;person a weight 1 doubt 9;person b weight 1 doubt 0;person d weight 1 doubt 0 love 1;");
        c.given(x, "by DOUBT 9", x.mends(1), 9);
        c.given(x, "by DOUBT 0", x.mends(2), 1);
        c.given(x, "0 of 0", x.mends(4), 0);
        // HOLDS 60 already: 40 + 9 m of 60: MOSS 2.
        for (int moss = 0; moss <= 9; moss++) {
            LeapArches y = Check.withViaduct("arch holds 60 moss " + moss + ";person a weight 40 doubt 9;");
            c.given(y, "to MOSS 2 from " + moss, y.mends(1), Math.max(0, moss - 2));
        }
        // 21 + (4 - j) of 20 + j: j is 3 (22 of 23), by 2 it is 23 of 22.
        LeapArches z = Check.withViaduct("arch holds 20 moss 4;person a weight 21;");
        c.given(z, "by both", z.mends(1), 3);
        for (int i = 0; i < 3; i++) {
            c.refused(z, "not borne yet", z.cheapest(1), 6);
            z.jump(0);
        }
        c.given(z, "borne", z.cheapest(1), 1);
        c.given(z, "no more JUMPS", z.mends(1), 0);
    }

    private static void mendsOfSeveral(Check c) {
        c.promise(42, "MENDS: how many of them on an ARCH");
        LeapArches x = Check.withViaduct("arch holds 5;arch holds 9;arch holds 7;person a weight 6 doubt 0;person b weight 8 doubt 0;");
        int[][] jumps = {{0, 0, 0}, {1, 0, 0}, {3, 0, 1}, {3, 0, 1}};
        for (int set = 0; set < 4; set++) {
            int sum = 0;
            for (int arch = 0; arch < 3; arch++) {
                c.given(x, "mendsAt(" + set + ", " + arch + ")", x.mendsAt(set, arch), jumps[set][arch]);
                sum += jumps[set][arch];
            }
            c.given(x, "mends(" + set + ")", x.mends(set), sum);
        }
        c.due("nothing is changed", x.arch(0, 0) + x.told(8), 5);
    }
}
