/** Promises 43 to 45: fits(), fitsAt(), ask(). */
public final class DoubtTest {
    // STRAIN of a in FOG f: 10 + DOUBT f, on ARCH 2: 10 + DOUBT (f + 1).
    private static final String GROUND = "net 1;fog 4;arch holds 60;arch holds 19;arch holds 14 moss 1;arch holds 30;person a weight 10 doubt 7 at 3;person b weight 1;";

    public static void main(String[] args) {
        Check c = new Check("DoubtTest");
        doubtsThatFit(c);
        severalTwos(c);
        asking(c);
        wrongCalls(c);
        nothingIsChanged(c);
        c.end();
    }

    private static LeapArches ground(int sort, long... twos) {
        LeapArches x = Check.withViaduct(GROUND);
        x.tray(2, sort, twos.length);
        for (int i = 0; i < twos.length; i++) {
            x.write(2, i, twos[i]);
        }
        return x;
    }

    private static void fitting(Check c, LeapArches x, int n, int... doubts) {
        c.due("fits(0, 2, " + n + ")", x.fits(0, 2, n), doubts.length);
        c.due("status()", x.status(), 0);
        for (int k = 0; k < doubts.length; k++) {
            c.due("fitsAt(0, 2, " + n + ", " + k + ")", x.fitsAt(0, 2, n, k), doubts[k]);
            c.due("status()", x.status(), 0);
        }
        c.refused(x, "fitsAt, no such", x.fitsAt(0, 2, n, doubts.length), 6);
        c.refused(x, "fitsAt, no such", x.fitsAt(0, 2, n, Integer.MAX_VALUE), 6);
    }

    private static void doubtsThatFit(Check c) {
        // In FOG 0 he is stopped at 2 from DOUBT 5 on, and falls to 1; else he is over.
        fitting(c, ground(0, 0, 4), 1, 0, 1, 2, 3, 4);
        fitting(c, ground(1, 0, 1), 1, 5, 6, 7, 8, 9);
        fitting(c, ground(2, 0, 2), 1);
        fitting(c, ground(3, 0, 2), 0, 0, 1, 2, 3, 4, 5, 6, 7, 8, 9);
        // In FOG 3: ARCH 1 bears DOUBTS to 3, ARCH 2 to 1, ARCH 3 to 6.
        fitting(c, ground(0, 3, 4), 1, 0, 1);
        fitting(c, ground(0, 3, 1), 1, 2, 3, 4, 5, 6, 7, 8, 9);
        LeapArches high = ground(0, 3, 2);
        high.rule(3, 9);
        fitting(c, high, 1, 2, 3);
        // By NET 0 who is stopped falls to no ARCH; who is stopped at the first one does not fall.
        LeapArches low = ground(0, 0, 0);
        low.rule(3, 0);
        fitting(c, low, 1, 5, 6, 7, 8, 9);
        LeapArches first = Check.withViaduct("arch holds 12 moss 1;person a weight 5 at 1;");
        first.tray(2, 0, 2);
        fitting(c, first, 1, 8, 9);
    }

    private static void severalTwos(Check c) {
        LeapArches x = ground(0, 0, 4, 3, 1, 1, 4, 0, 4, 0, 1);
        fitting(c, x, 2, 2, 3, 4);
        fitting(c, x, 3, 2);
        fitting(c, x, 4, 2);
        fitting(c, x, 5);
        long[] twenty = new long[40];
        for (int i = 1; i < 40; i += 2) {
            twenty[i] = 4;
        }
        fitting(c, ground(3, twenty), 20, 0, 1, 2, 3, 4);
    }

    private static void asking(Check c) {
        // Over: in FOG 0 DOUBTS 0 to 4, 1: 0 to 2, 2: 0 to 1, 3: 0 to 1, 4: 0, 5: 0; else 1.
        LeapArches x = ground(0, 0, 4, 1, 4, 4, 4, 0, 1);
        c.due("ask(0, 2, 0): five and five", x.ask(0, 2, 0), 0);
        c.due("ask(0, 2, 1): 0 to 4 by FOG 1 are three and two", x.ask(0, 2, 1), 1);
        c.due("ask(0, 2, 2): 0 to 2 by FOG 2 are two and one", x.ask(0, 2, 2), 2);
        c.refused(x, "ask(0, 2, 3): 0 alone", x.ask(0, 2, 3), 6);
        c.refused(x, "ask(0, 2, 4): none", x.ask(0, 2, 4), 6);
        LeapArches high = ground(0, 5, 1);
        high.rule(3, 9);
        // In FOG 5 stopped at 1: 2 to 9. These in FOG 0: over 2 to 4, at 2 5 to 9; 1: over 2, at 2 3 to 9; 2: at 2 2 to 4, at 1 5 to 9; 3: at 2 2, 3.
        c.due("ask(0, 2, 1) by three ways: of FOGS that are as good the least", high.ask(0, 2, 1), 0);
        c.due("status()", high.status(), 0);
        LeapArches two = Check.withViaduct("arch holds 12 moss 1;person a weight 4;");
        two.tray(2, 0, 4);
        two.write(2, 2, 5);
        c.refused(two, "ask(0, 2, 1): 9 alone", two.ask(0, 2, 1), 6);
        two.teach(0, 0, 5);
        c.due("ask(0, 2, 1): 8 and 9, alike in every FOG", two.ask(0, 2, 1), 0);
        LeapArches far = Check.withViaduct("arch holds 60;person a weight 16;");
        far.tray(2, 0, 0);
        c.due("ask(0, 2, 0): the greatest FOG alone parts them", far.ask(0, 2, 0), 5);
        LeapArches alike = Check.withViaduct("arch holds 60;person a weight 1;");
        alike.tray(2, 0, 0);
        c.due("ask(0, 2, 0): no FOG parts them", alike.ask(0, 2, 0), 0);
    }

    private static void wrongCalls(Check c) {
        LeapArches x = ground(3, 0, 4, 5, 4, 6, 4, 0, 5, -1, 0, 0, -1, 1L << 32, 0);
        int[] status = {0, 0, 0, 5, 5};
        for (int n = 1; n < 5; n++) {
            x.fits(0, 2, n);
            c.due("status() of fits(0, 2, " + n + ")", x.status(), status[n]);
            x.fitsAt(0, 2, n, 0);
            c.due("status() of fitsAt(0, 2, " + n + ", 0)", x.status(), n == 2 ? 0 : status[n]);
        }
        c.refused(x, "ask(0, 2, 3)", x.ask(0, 2, 3), 5);
        long[][] wrong = {{6, 0}, {-1, 0}, {0, 5}, {0, -1}, {1L << 32, 0}, {0, 1L << 32}, {0, 0, 0, 5}};
        for (long[] twos : wrong) {
            LeapArches y = ground(3, twos);
            c.refused(y, "fits by a number that can't be", y.fits(0, 2, twos.length / 2), 5);
            c.refused(y, "ask by a number that can't be", y.ask(0, 2, twos.length / 2), 5);
            c.refused(y, "too few first", y.fits(0, 2, twos.length / 2 + 1), 3);
            c.due("what is not asked for does not matter", y.fits(0, 2, 0), 10);
        }
        int[][] no = {{2, 2, 0}, {-1, 2, 0}, {0, 4, 0}, {0, -1, 0}, {0, 2, -1}, {0, 2, 21}};
        for (int[] call : no) {
            c.refused(x, "fits", x.fits(call[0], call[1], call[2]), 1);
            c.refused(x, "fitsAt", x.fitsAt(call[0], call[1], call[2], 0), 1);
            c.refused(x, "ask", x.ask(call[0], call[1], call[2]), 1);
        }
        c.refused(x, "fits(0, 1, 9)", x.fits(0, 1, 9), 2);
        c.refused(x, "fitsAt(0, 1, 9, 0)", x.fitsAt(0, 1, 9, 0), 2);
        c.refused(x, "ask(0, 1, 9)", x.ask(0, 1, 9), 2);
        c.refused(x, "fitsAt(0, 1, 9, -1)", x.fitsAt(0, 1, 9, -1), 1);
        c.refused(x, "fits(0, 2, 8)", x.fits(0, 2, 8), 3);
        c.refused(x, "fitsAt(0, 2, 8, 0)", x.fitsAt(0, 2, 8, 0), 3);
        c.refused(x, "ask(0, 2, 8)", x.ask(0, 2, 8), 3);
        LeapArches odd = ground(0, 0, 4, 0);
        c.due("fits(0, 2, 1), one number over", odd.fits(0, 2, 1), 5);
        c.refused(odd, "fits(0, 2, 2)", odd.fits(0, 2, 2), 3);
    }

    private static void nothingIsChanged(Check c) {
        LeapArches x = ground(0, 0, 4);
        x.fits(0, 2, 1);
        x.ask(0, 2, 1);
        c.due("DOUBT", x.person(0, 1), 7);
        c.due("AT", x.person(0, 3), 3);
        c.due("FOG", x.told(4), 4);
        c.due("TROD", x.told(8), 0);
    }
}
