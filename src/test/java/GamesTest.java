/** Promises 46 to 52: game(), moveOf(), garden(), gardenSet(), chance(), hope(), copyAt(). */
public final class GamesTest {
    public static void main(String[] args) {
        Check c = new Check("GamesTest");
        gamesOfGoing(c);
        gamesOfJumping(c);
        gamesAtTheEnd(c);
        jumpsCanHelpTheOther(c);
        wrongGames(c);
        gardens(c);
        gardensOfSeveralSets(c);
        chances(c);
        hopes(c);
        copies(c);
        c.end();
    }

    private static void games(Check c, LeapArches x, int person, int other, int[] worth, int[] move) {
        for (int n = 0; n < worth.length; n++) {
            c.due("game(" + person + ", " + other + ", " + n + ")", x.game(person, other, n), worth[n]);
            c.due("status()", x.status(), 0);
            if (n > 0) {
                c.due("moveOf(" + person + ", " + other + ", " + n + ")", x.moveOf(person, other, n), move[n]);
                c.due("status()", x.status(), 0);
            }
        }
    }

    private static void gamesOfGoing(Check c) {
        LeapArches x = Check.withViaduct("arch holds 9;arch holds 9;arch holds 9;arch holds 9;person a weight 5 doubt 0;person b weight 5 doubt 0 at 2;");
        games(c, x, 0, 1, new int[] {-2, -1, -2, -1, -2}, new int[] {0, 0, 0, 0, 0});
        games(c, x, 1, 0, new int[] {2, 3, 2, 3, 2}, new int[] {0, 0, 0, 0, 0});
        c.due("nothing is changed", x.person(0, 3) + x.told(8), 0);
        c.due("NONE and -1 are told apart", x.game(0, 1, 1), -1);
        c.due("status()", x.status(), 0);
    }

    private static void gamesOfJumping(Check c) {
        // a needs one JUMP, then he goes; b can't go at all without many.
        LeapArches x = Check.withViaduct("arch holds 5 moss 1;arch holds 0;person a weight 5 doubt 2;person b weight 40;");
        // With 1 and 2 turns nothing helps, so the first move that can be is to JUMP.
        games(c, x, 0, 1, new int[] {0, 0, 0, 1, 1}, new int[] {9, 1, 1, 1, 1});
        c.due("HOLDS", x.arch(0, 0), 5);
        c.due("MOSS", x.arch(0, 1), 1);
        c.due("TROD", x.told(8), 0);
        c.due("game(1, 0, 3): b JUMPS, or sits, and a JUMPS in vain", x.game(1, 0, 3), 0);
        c.due("game(1, 0, 4): by sitting b has a JUMP and go", x.game(1, 0, 4), -1);
    }

    private static void gamesAtTheEnd(Check c) {
        LeapArches x = Check.withViaduct("arch holds 60;person a weight 5 doubt 0 at 1;person b weight 5 doubt 0;person d weight 5 at 1;");
        games(c, x, 0, 1, new int[] {1, 1, 0, 0, 0}, new int[] {9, 2, 2, 2, 2});
        games(c, x, 0, 2, new int[] {0, 0, 0, 0, 0}, new int[] {9, 2, 2, 2, 2});
        games(c, x, 1, 0, new int[] {-1, 0, 0, 0, 0}, new int[] {9, 0, 0, 0, 0});
        // b can't go, and the ARCH can't be JUMPED on: he sits.
        LeapArches y = Check.withViaduct("fog 5;arch holds 60;person a weight 40 doubt 9;person b weight 40 doubt 9;");
        games(c, y, 0, 1, new int[] {0, 0, 0, 0, 0}, new int[] {9, 2, 2, 2, 2});
        LeapArches none = Check.withViaduct("person a weight 40;person b weight 40;");
        games(c, none, 0, 1, new int[] {0, 0, 0, 0, 0}, new int[] {9, 2, 2, 2, 2});
    }

    private static void jumpsCanHelpTheOther(Check c) {
        // a needs two JUMPS, b one: a had better sit, with two turns and three; with four b is over anyway.
        LeapArches x = Check.withViaduct("arch holds 4;person a weight 6 doubt 0;person b weight 5 doubt 0;");
        games(c, x, 0, 1, new int[] {0, 0, 0, 0, -1}, new int[] {9, 1, 2, 2, 1});
    }

    private static void wrongGames(Check c) {
        LeapArches x = Check.withViaduct("arch holds 4;person a weight 6;person b weight 5;");
        int[][] no = {{0, 0, 1}, {0, 2, 1}, {2, 0, 1}, {-1, 0, 1}, {0, -1, 1}, {0, 1, -1}, {0, 1, 5}};
        for (int[] call : no) {
            c.refused(x, "game", x.game(call[0], call[1], call[2]), 1);
            c.refused(x, "moveOf", x.moveOf(call[0], call[1], call[2]), 1);
        }
        c.refused(x, "moveOf(0, 1, 0)", x.moveOf(0, 1, 0), 1);
        c.due("game(0, 1, 0)", x.game(0, 1, 0), 0);
        c.due("status()", x.status(), 0);
    }

    private static void gardens(Check c) {
        LeapArches x = Check.withViaduct("plant 5 joy 10;plant 4 joy 40;plant 6 joy 30;plant 3 joy 50;");
        int[] room = {0, 2, 3, 4, 6, 7, 9, 10, 12, 13, 17, 18, 99};
        int[] joy = {0, 0, 50, 50, 50, 90, 90, 90, 100, 120, 120, 130, 130};
        int[] set = {0, 0, 8, 8, 8, 10, 10, 10, 11, 14, 14, 15, 15};
        for (int i = 0; i < room.length; i++) {
            c.due("garden(" + room[i] + ")", x.garden(room[i]), joy[i]);
            c.due("gardenSet(" + room[i] + ")", x.gardenSet(room[i]), set[i]);
        }
        c.due("status()", x.status(), 0);
        c.refused(x, "garden(-1)", x.garden(-1), 1);
        c.refused(x, "garden(100)", x.garden(100), 1);
        c.refused(x, "gardenSet(-1)", x.gardenSet(-1), 1);
        c.refused(x, "gardenSet(100)", x.gardenSet(100), 1);
    }

    private static void gardensOfSeveralSets(Check c) {
        LeapArches x = Check.withViaduct("plant 1 joy 0;plant 5 joy 7;plant 2 joy 3;plant 3 joy 4;plant 5 joy 7;");
        c.due("gardenSet(5): 1 alone, without what has no JOY", x.gardenSet(5), 2);
        c.due("gardenSet(10): 1 with 2 and 3", x.gardenSet(10), 14);
        c.due("garden(10)", x.garden(10), 14);
        LeapArches whole = new LeapArches();
        for (int i = 0; i < 8; i++) {
            whole.sow(12, 99);
        }
        c.due("garden(95)", whole.garden(95), 693);
        c.due("gardenSet(95)", whole.gardenSet(95), 127);
        c.due("garden(96)", whole.garden(96), 792);
        c.due("gardenSet(96)", whole.gardenSet(96), 255);
    }

    private static void chances(Check c) {
        LeapArches x = Check.withViaduct("odds 4;arch holds 9;arch holds 9;arch holds 9;person a weight 5;person b weight 10 doubt 0;person d weight 5 at 2;person e weight 10 at 3;");
        c.fraction(x, "chance(0)", x.chance(0), 27, 64);
        c.fraction(x, "chance(1), stopped", x.chance(1), 0, 1);
        c.fraction(x, "chance(2)", x.chance(2), 3, 4);
        c.fraction(x, "chance(3), OVER", x.chance(3), 1, 1);
        x.rule(5, 0);
        c.fraction(x, "chance(0), no slips", x.chance(0), 1, 1);
        c.fraction(x, "chance(1)", x.chance(1), 0, 1);
        x.rule(5, 16);
        c.fraction(x, "chance(0), he slips", x.chance(0), 0, 1);
        c.fraction(x, "chance(3)", x.chance(3), 1, 1);
        c.refused(x, "chance(4)", x.chance(4), 1);
        c.refused(x, "chance(-1)", x.chance(-1), 1);
        LeapArches nine = Check.withViaduct("odds 15;" + "arch holds 9;".repeat(9) + "person a weight 5;");
        c.fraction(nine, "chance(0)", nine.chance(0), 1, 1L << 36);
        nine.rule(5, 1);
        c.fraction(nine, "chance(0)", nine.chance(0), 38443359375L, 1L << 36);
    }

    private static void hopes(Check c) {
        LeapArches x = Check.withViaduct("odds 4;arch holds 9;arch holds 9;arch holds 4;arch holds 9;person a weight 5 doubt 0;person d weight 5 doubt 0 at 3;person e weight 9 at 4;");
        c.fraction(x, "hope(0, 0)", x.hope(0, 0), 1, 1);
        c.fraction(x, "hope(0, 1)", x.hope(0, 1), 3, 4);
        c.fraction(x, "hope(0, 2)", x.hope(0, 2), 9, 16);
        c.fraction(x, "hope(0, 3), stopped", x.hope(0, 3), 0, 1);
        c.fraction(x, "hope(0, 9)", x.hope(0, 9), 0, 1);
        c.fraction(x, "hope(1, 1)", x.hope(1, 1), 3, 4);
        c.fraction(x, "hope(1, 2), no more ARCHES", x.hope(1, 2), 0, 1);
        c.fraction(x, "hope(2, 0)", x.hope(2, 0), 1, 1);
        c.fraction(x, "hope(2, 1)", x.hope(2, 1), 0, 1);
        x.rule(5, 16);
        c.fraction(x, "hope(0, 1)", x.hope(0, 1), 0, 1);
        c.fraction(x, "hope(0, 0)", x.hope(0, 0), 1, 1);
        c.refused(x, "hope(0, 10)", x.hope(0, 10), 1);
        c.refused(x, "hope(0, -1)", x.hope(0, -1), 1);
        c.refused(x, "hope(3, 0)", x.hope(3, 0), 1);
        c.refused(x, "hope(-1, 0)", x.hope(-1, 0), 1);
    }

    private static void copies(Check c) {
        LeapArches x = Check.withViaduct("arch holds 9;arch holds 9;person a weight 5 at 2;person b weight 5;person d weight 5 at 1;");
        c.refused(x, "copyAt(4)", x.copyAt(4), 1);
        c.refused(x, "copyAt(-1)", x.copyAt(-1), 1);
        c.refused(x, "copyAt(0)", x.copyAt(0), 2);
        x.tray(0, 3, 2);
        c.refused(x, "copyAt(0)", x.copyAt(0), 3);
        x.tray(0, 0, 4);
        for (int i = 0; i < 4; i++) {
            x.write(0, i, 8);
        }
        c.due("copyAt(0)", x.copyAt(0), 3);
        c.due("status()", x.status(), 0);
        int[] row = {2, 0, 1, 8};
        for (int i = 0; i < 4; i++) {
            c.due("read(0, " + i + ")", x.read(0, i), row[i]);
        }
        x.tray(1, 3, 3);
        c.due("copyAt(1), as many as there are", x.copyAt(1), 3);
        LeapArches none = new LeapArches();
        none.tray(0, 0, 0);
        c.due("copyAt(0) without PEOPLE", none.copyAt(0), 0);
    }
}
