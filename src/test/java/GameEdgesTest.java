/** The edges of promises 46 to 52: games, the garden, odds, copies. */
public final class GameEdgesTest {
    public static void main(String[] args) {
        Check c = new Check("GameEdgesTest");
        gamesOfNoTurns(c);
        gamesOfEachLength(c);
        gamesWithoutArches(c);
        movesThatAreAsGood(c);
        movesThatCannotBe(c);
        jumpsAtTheEnds(c);
        minusOneAndNone(c);
        gardensOfNothing(c);
        gardensThatAreJustEnough(c);
        gardensOfSeveralSets(c);
        chancesAtTheEnds(c);
        chancesFromWhereHeIs(c);
        hopesOfEachLength(c);
        hopesAheadOfAStop(c);
        copiesOfAsManyAsThereAre(c);
        c.end();
    }

    private static void gamesOfNoTurns(Check c) {
        c.promise(46, "GAME of two PEOPLE and n turns (0 to 4)");
        for (int at = 0; at <= 9; at++) {
            LeapArches x = Check.withViaduct("arch holds 60;".repeat(9) + "person a weight 5 at " + at + ";person b weight 5 at 9;");
            c.given(x, "game(0, 1, 0), a at " + at, x.game(0, 1, 0), at - 9);
            c.given(x, "game(1, 0, 0)", x.game(1, 0, 0), 9 - at);
            c.refused(x, "-1 turns", x.game(0, 1, -1), 1);
            c.refused(x, "5 turns", x.game(0, 1, 5), 1);
            c.refused(x, "one and himself", x.game(0, 0, 0), 1);
        }
        c.promise(47, "(1: n 0, too)");
        LeapArches y = Check.withViaduct("arch holds 60;person a weight 5;person b weight 5;");
        c.refused(y, "moveOf, no turns", y.moveOf(0, 1, 0), 1);
        c.refused(y, "moveOf, 5 turns", y.moveOf(0, 1, 5), 1);
        c.refused(y, "moveOf, one and himself", y.moveOf(1, 1, 1), 1);
        c.given(y, "moveOf, one turn", y.moveOf(0, 1, 1), 0);
        c.given(y, "moveOf, 4 turns", y.moveOf(0, 1, 4), 0);
    }

    private static void gamesOfEachLength(Check c) {
        c.promise(46, "by turns, the first first, one goes over the next ARCH, if it BEARS him");
        LeapArches x = Check.withViaduct("arch holds 9;".repeat(4) + "person a weight 5 doubt 0;person b weight 5 doubt 0;person d weight 10 doubt 0;");
        int[] both = {0, 1, 0, 1, 0};
        // d (10 of 9) needs a JUMP, then he goes; where a goes ahead of him he has to JUMP himself.
        int[] slow = {0, 1, 1, 2, 1};
        for (int n = 0; n <= 4; n++) {
            c.given(x, "game(0, 1, " + n + "), both go", x.game(0, 1, n), both[n]);
            c.given(x, "game(0, 2, " + n + "), d has to JUMP", x.game(0, 2, n), slow[n]);
        }
        int[] slowFirst = {0, 0, -1, 0, -1};
        for (int n = 0; n <= 4; n++) {
            c.given(x, "game(2, 0, " + n + "), d is the first", x.game(2, 0, n), slowFirst[n]);
        }
        c.due("nothing is changed", x.told(8) + x.told(9) + x.person(0, 3), 0);
    }

    private static void gamesWithoutArches(Check c) {
        c.promise(46, "if there is one and it can be, or sits");
        LeapArches none = Check.withViaduct("person a weight 5;person b weight 5;");
        LeapArches over = Check.withViaduct("arch holds 9;person a weight 5 at 1;person b weight 5 at 1;");
        LeapArches last = Check.withViaduct("arch holds 9;person a weight 5 at 1;person b weight 5;");
        for (int n = 0; n <= 4; n++) {
            c.given(none, "without ARCHES", none.game(0, 1, n), 0);
            c.given(over, "both OVER", over.game(0, 1, n), 0);
            c.given(last, "the second has one left", last.game(0, 1, n), n < 2 ? 1 : 0);
            c.given(last, "the first has one left", last.game(1, 0, n), n < 1 ? -1 : 0);
            if (n > 0) {
                c.promise(47, "0 he goes, 1 he JUMPS, 2 he sits");
                c.given(none, "he sits without ARCHES", none.moveOf(0, 1, n), 2);
                c.given(over, "he sits, OVER", over.moveOf(0, 1, n), 2);
                c.promise(46, "if there is one and it can be, or sits");
            }
        }
    }

    private static void movesThatAreAsGood(Check c) {
        c.promise(47, "of all that are as good the first");
        LeapArches one = Check.withViaduct("arch holds 9;person a weight 5 doubt 0;person b weight 5 doubt 0 at 1;");
        c.given(one, "by 3 turns he may go at once or later: he goes", one.moveOf(0, 1, 3), 0);
        LeapArches stuck = Check.withViaduct("arch holds 1;person a weight 9 doubt 0;person b weight 9 doubt 0 at 1;");
        c.given(stuck, "a JUMP is in vain, and as good as sitting", stuck.moveOf(0, 1, 4), 1);
        LeapArches full = Check.withViaduct("fog 5;arch holds 60;person a weight 40 doubt 9;person b weight 40 doubt 9 at 1;");
        c.given(full, "he can't JUMP: he sits", full.moveOf(0, 1, 4), 2);
        // a needs two JUMPS, b one: his JUMP lets b go.
        LeapArches help = Check.withViaduct("arch holds 4;person a weight 6 doubt 0;person b weight 5 doubt 0;");
        c.given(help, "by 1 turn a JUMP is as good as sitting", help.moveOf(0, 1, 1), 1);
        c.given(help, "by 2 turns it is worse", help.moveOf(0, 1, 2), 2);
        c.given(help, "by 2 turns", help.game(0, 1, 2), 0);
    }

    private static void movesThatCannotBe(Check c) {
        c.promise(46, "one goes over the next ARCH, if it BEARS him");
        for (int weight = 9; weight <= 11; weight++) {
            LeapArches x = Check.withViaduct("fog 1;arch holds 20 moss 9;person a weight " + weight + ";person b weight 40 doubt 0 love 1;");
            boolean borne = weight <= 10;
            c.given(x, weight + " + 10 of 20", x.game(0, 1, 1), borne ? 1 : 0);
            c.promise(47, "0 he goes, 1 he JUMPS, 2 he sits");
            c.given(x, weight + " + 10 of 20", x.moveOf(0, 1, 1), borne ? 0 : 1);
            c.given(x, "by 3 turns " + weight + " + 10 of 20", x.moveOf(0, 1, 3), borne ? 0 : 1);
        }
    }

    private static void jumpsAtTheEnds(Check c) {
        c.promise(46, "JUMPS on the next ARCH, if there is one and it can be");
        // 52 + 9 m of 60: MOSS 0 bears him, one JUMP on 60 with MOSS 1 is enough.
        int[][] arches = {{60, 1}, {60, 2}, {59, 1}, {60, 9}};
        int[][] worth = {{0, 0, 0, 1, 1}, {0, 0, 0, 0, 0}, {0, 0, 0, 1, 1}, {0, 0, 0, 0, 0}};
        for (int i = 0; i < arches.length; i++) {
            LeapArches x = Check.withViaduct("fog 2;arch holds " + arches[i][0] + " moss " + arches[i][1] + ";person a weight 40 doubt 9;person b weight 40 doubt 9 at 1;");
            for (int n = 0; n <= 4; n++) {
                c.given(x, "HOLDS " + arches[i][0] + ", MOSS " + arches[i][1] + ", " + n + " turns", x.game(0, 1, n), worth[i][n] - 1);
            }
        }
    }

    private static void minusOneAndNone(Check c) {
        c.promise(46, "STATUS tells NONE from -1");
        LeapArches x = Check.withViaduct("arch holds 9;person a weight 5;person b weight 5 at 1;");
        c.given(x, "-1 that is one", x.game(0, 1, 0), -1);
        c.refused(x, "NONE", x.game(0, 2, 0), 1);
        c.given(x, "-1 again", x.game(0, 1, 0), -1);
    }

    private static void gardensOfNothing(Check c) {
        c.promise(48, "GARDEN of n (0 to 99)");
        LeapArches x = new LeapArches();
        for (int n : new int[] {0, 1, 99}) {
            c.given(x, "garden(" + n + ") without PLANTS", x.garden(n), 0);
            c.given(x, "gardenSet(" + n + ") without PLANTS", x.gardenSet(n), 0);
        }
        x.sow(1, 99);
        c.given(x, "garden(0)", x.garden(0), 0);
        c.given(x, "garden(1)", x.garden(1), 99);
        LeapArches least = Check.withViaduct("plant 1 joy 1;");
        c.given(least, "garden(1), the least JOY", least.garden(1), 1);
        c.given(least, "gardenSet(1)", least.gardenSet(1), 1);
        c.promise(49, "GARDEN: the set");
        c.given(x, "gardenSet(0)", x.gardenSet(0), 0);
        c.given(x, "gardenSet(1)", x.gardenSet(1), 1);
        c.refused(x, "gardenSet(100)", x.gardenSet(100), 1);
        c.refused(x, "gardenSet(-1)", x.gardenSet(-1), 1);
        c.promise(48, "GARDEN: JOY (1).");
        c.refused(x, "garden(100)", x.garden(100), 1);
        c.refused(x, "garden(-1)", x.garden(-1), 1);
    }

    private static void gardensThatAreJustEnough(Check c) {
        c.promise(48, "the most JOY of PLANTS whose SIZES together are no more than n");
        LeapArches x = new LeapArches();
        for (int i = 0; i < 8; i++) {
            x.sow(30, 99);
        }
        int[] room = {29, 30, 59, 60, 89, 90, 99};
        int[] joy = {0, 99, 99, 198, 198, 297, 297};
        int[] set = {0, 1, 1, 3, 3, 7, 7};
        for (int i = 0; i < room.length; i++) {
            c.given(x, "garden(" + room[i] + ")", x.garden(room[i]), joy[i]);
            c.given(x, "gardenSet(" + room[i] + ")", x.gardenSet(room[i]), set[i]);
        }
        LeapArches small = new LeapArches();
        for (int i = 0; i < 8; i++) {
            small.sow(1, 99);
        }
        c.given(small, "garden(7)", small.garden(7), 693);
        c.given(small, "garden(8), all", small.garden(8), 792);
        c.given(small, "gardenSet(99), all", small.gardenSet(99), 255);
    }

    private static void gardensOfSeveralSets(Check c) {
        c.promise(49, "of several sets the least as a number (1 for PLANT 0 ..)");
        LeapArches x = Check.withViaduct("plant 2 joy 0;plant 5 joy 9;plant 5 joy 9;plant 2 joy 4;plant 3 joy 5;");
        c.given(x, "PLANT 1 ahead of 2, and of 3 with 4", x.gardenSet(5), 2);
        c.given(x, "no PLANT of JOY 0", x.gardenSet(99), 30);
        c.given(x, "1 and 2 ahead of 1, 3, 4", x.gardenSet(10), 6);
        c.given(x, "nothing of JOY 0 alone", x.gardenSet(1), 0);
        LeapArches last = Check.withViaduct("plant 9 joy 1;".repeat(7) + "plant 9 joy 2;");
        c.given(last, "PLANT 7 alone is the best", last.gardenSet(9), 128);
        c.given(last, "with the first", last.gardenSet(18), 129);
        LeapArches joyless = Check.withViaduct("plant 1 joy 0;".repeat(8));
        c.given(joyless, "no JOY at all", joyless.gardenSet(99), 0);
    }

    private static void chancesAtTheEnds(Check c) {
        c.promise(50, "slips by ODDS sixteenths, at each ARCH anew");
        LeapArches x = Check.withViaduct("arch holds 9;".repeat(9) + "person a weight 5 doubt 0;person b weight 10 doubt 0;person d weight 10 doubt 0 at 9;");
        x.rule(5, 0);
        c.fraction(x, "no slips", x.chance(0), 1, 1);
        x.rule(5, 1);
        c.fraction(x, "15 of 16, nine times", x.chance(0), 38443359375L, 1L << 36);
        x.rule(5, 15);
        c.fraction(x, "1 of 16, nine times", x.chance(0), 1, 1L << 36);
        x.rule(5, 16);
        c.fraction(x, "slips alone", x.chance(0), 0, 1);
        c.fraction(x, "OVER already", x.chance(2), 1, 1);
        c.promise(50, "The FRACTION is CHANCE (0 if an ARCH would stop him) (1).");
        x.rule(5, 0);
        c.fraction(x, "stopped at the first", x.chance(1), 0, 1);
        LeapArches none = Check.withViaduct("odds 16;person a weight 5;");
        c.fraction(none, "without ARCHES", none.chance(0), 1, 1);
    }

    private static void chancesFromWhereHeIs(Check c) {
        c.promise(50, "the odds that one who RUNS from where he is is OVER without a slip");
        long bottom = 1L << 36;
        for (int at = 0; at <= 9; at++) {
            LeapArches x = Check.withViaduct("odds 15;" + "arch holds 9;".repeat(9) + "person a weight 5 doubt 0 at " + at + ";");
            c.fraction(x, "from " + at, x.chance(0), 1, bottom);
            bottom /= 16;
        }
        LeapArches stop = Check.withViaduct("odds 8;arch holds 4;arch holds 9;arch holds 9;person a weight 5 doubt 0 at 1;person b weight 5 doubt 0;");
        c.fraction(stop, "what is behind him does not stop him", stop.chance(0), 1, 4);
        c.fraction(stop, "what is ahead of him does", stop.chance(1), 0, 1);
    }

    private static void hopesOfEachLength(Check c) {
        c.promise(51, "HOPE of k (0 to 9): the odds that he goes over k ARCHES from there, or more, ahead of a slip");
        LeapArches x = Check.withViaduct("odds 15;" + "arch holds 9;".repeat(9) + "person a weight 5 doubt 0;person b weight 5 doubt 0 at 5;person d weight 5 at 9;");
        long bottom = 1;
        for (int k = 0; k <= 9; k++) {
            c.fraction(x, "hope(0, " + k + ")", x.hope(0, k), 1, bottom);
            c.fraction(x, "hope(1, " + k + "), four are left", x.hope(1, k), k <= 4 ? 1 : 0, k <= 4 ? bottom : 1);
            c.fraction(x, "hope(2, " + k + "), none is left", x.hope(2, k), k == 0 ? 1 : 0, 1);
            bottom *= 16;
        }
        c.refused(x, "hope(0, 10)", x.hope(0, 10), 1);
        c.refused(x, "hope(0, -1)", x.hope(0, -1), 1);
        c.due("the FRACTION stays", x.top() * 10 + x.bottom(), 1);
    }

    private static void hopesAheadOfAStop(Check c) {
        c.promise(51, "(0 if an ARCH would stop him ahead of that)");
        for (int stop = 0; stop < 9; stop++) {
            LeapArches x = Check.withViaduct("net 0;odds 8;" + "arch holds 9;".repeat(stop) + "arch holds 4;" + "arch holds 9;".repeat(8 - stop) + "person a weight 5;");
            for (int k = 0; k <= 9; k++) {
                c.fraction(x, "hope(0, " + k + "), ARCH " + stop + " stops him", x.hope(0, k), k <= stop ? 1 : 0, k <= stop ? 1 << k : 1);
            }
        }
    }

    private static void copiesOfAsManyAsThereAre(Check c) {
        c.promise(52, "How many ARCHES are behind all PEOPLE comes to a TRAY, one by one: how many PEOPLE (1; 2; 3).");
        LeapArches x = Check.withViaduct("arch holds 9;".repeat(9) + "person a weight 5 at 9;person b weight 5;person d weight 5 at 1;person e weight 5 at 8;person f weight 5 at 2;person g weight 5 at 7;");
        int[] at = {9, 0, 1, 8, 2, 7};
        for (int sort = 0; sort < 4; sort++) {
            States.lay(x, sort, sort, 70, 71, 72, 73, 74, 75, 76);
            c.given(x, "copyAt(" + sort + ")", x.copyAt(sort), 6);
            for (int i = 0; i < 6; i++) {
                c.given(x, "read(" + sort + ", " + i + ")", x.read(sort, i), at[i]);
            }
            c.given(x, "what is behind them stays", x.read(sort, 6), 76);
        }
        x.tray(0, 0, 6);
        c.given(x, "six places", x.copyAt(0), 6);
        x.tray(0, 0, 5);
        c.refused(x, "five places", x.copyAt(0), 3);
        c.given(x, "nothing came", x.read(0, 0), 0);
        x.tray(0, 0, 0);
        c.refused(x, "no place", x.copyAt(0), 3);
        LeapArches none = new LeapArches();
        c.refused(none, "MISSING", none.copyAt(0), 2);
        none.tray(0, 0, 0);
        c.given(none, "nobody to no place", none.copyAt(0), 0);
        States.lay(none, 1, 0, 7);
        c.given(none, "nobody to a place", none.copyAt(1), 0);
        c.given(none, "it stays", none.read(1, 0), 7);
    }
}
