/** Promises 6 to 55: "STATUS of a call is the first of these that holds": calls for which several hold. */
public final class OrderTest {
    public static void main(String[] args) {
        Check c = new Check("OrderTest");
        trays(c);
        pouringHasItsOwnOrder(c);
        texts(c);
        deeds(c);
        sets(c);
        doubts(c);
        copies(c);
        decades(c);
        c.end();
    }

    private static void trays(Check c) {
        LeapArches x = States.rich();
        c.promise(6, "(1, 2, 3)");
        c.refused(x, "no TRAY and no place", x.write(4, -1, 0), 1);
        c.refused(x, "MISSING and no place", x.write(3, -1, 0), 2);
        c.refused(x, "MISSING and no place", x.write(3, 60, 0), 2);
        c.promise(7, "(1, 2, 3)");
        c.refused(x, "no TRAY and no place", x.read(-1, 60), 1);
        c.refused(x, "MISSING and no place", x.read(3, -1), 2);
        c.refused(x, "MISSING and no place", x.read(3, 60), 2);
    }

    private static void pouringHasItsOwnOrder(Check c) {
        LeapArches x = States.rich();
        c.promise(8, "(1: below 0, too; 2; 8; 3; asked in this order)");
        c.refused(x, "no TRAY, and one that is MISSING", x.pour(3, 0, 4, 0, 1), 1);
        c.refused(x, "MISSING, and a place below 0", x.pour(3, -1, 0, 0, 1), 1);
        c.refused(x, "MISSING, and another place below 0", x.pour(3, 0, 0, -1, 1), 1);
        c.refused(x, "MISSING, and so many below 0", x.pour(3, 0, 0, 0, -1), 1);
        c.refused(x, "unlike sorts, and a place below 0", x.pour(0, 0, 1, -1, 1), 1);
        c.refused(x, "too few, and a place below 0", x.pour(1, -1, 2, 0, 99), 1);
        c.refused(x, "too few, and so many below 0", x.pour(1, 99, 2, 99, -1), 1);
        c.refused(x, "MISSING, and too few", x.pour(0, 99, 3, 0, 1), 2);
        c.refused(x, "MISSING, and too few", x.pour(3, 99, 2, 99, 99), 2);
        c.refused(x, "unlike sorts, and no such place", x.pour(0, 6, 1, 0, 1), 8);
        c.refused(x, "unlike sorts, and no such place", x.pour(0, 0, 1, 2, 1), 8);
        c.refused(x, "unlike sorts, and too few", x.pour(1, 0, 0, 0, 99), 8);
        c.refused(x, "too few", x.pour(1, 0, 2, 0, 99), 3);
    }

    private static void texts(Check c) {
        LeapArches x = States.rich("@@@@");
        c.promise(10, "(1: n below 0, or more than the tape has, too; 9: the old one stays)");
        c.refused(x, "a FAULT, but more than the tape has", x.viaduct(21), 1);
        c.refused(x, "the FAULT", x.viaduct(20), 9);
        LeapArches y = States.rich("@".repeat(320));
        c.promise(11, "(1: above 300, too; 9)");
        c.refused(y, "a FAULT, but above 300", y.decades(301), 1);
        c.refused(y, "a FAULT, but above 300 and more than the tape has", y.decades(321), 1);
        c.refused(y, "the FAULT", y.decades(300), 9);
    }

    private static void deeds(Check c) {
        LeapArches x = States.full();
        c.promise(18, "(1: one and himself, too; 7: they are not AT as many, they are OVER)");
        c.refused(x, "one and himself, who is OVER", x.rope(3, 3), 1);
        c.refused(x, "no PERSON, and one who is OVER", x.rope(3, 6), 1);
        c.refused(x, "OVER, and not AT as many", x.rope(3, 2), 7);
        c.promise(21, "(1; 4: above 9,999)");
        c.refused(x, "on the last DAY no DAYS", x.day(0), 1);
        c.refused(x, "on the last DAY too many", x.day(100), 1);
        c.refused(x, "on the last DAY MAX, that wraps around", x.day(Integer.MAX_VALUE), 1);
        c.promise(23, "(1; 4: a seventh)");
        c.refused(x, "a seventh, too light", x.come(0), 1);
        c.refused(x, "a seventh, too heavy", x.come(41), 1);
        c.promise(24, "(1; 4: a tenth)");
        c.refused(x, "a tenth that can't HOLD so much", x.build(61, 0), 1);
        c.refused(x, "a tenth with no such TOLL", x.build(0, 10), 1);
        c.promise(25, "(1; 4: a ninth)");
        c.refused(x, "a ninth of no SIZE", x.sow(0, 0), 1);
        c.refused(x, "a ninth with no such JOY", x.sow(1, 100), 1);
    }

    private static void sets(Check c) {
        LeapArches x = Check.withViaduct("fog 5;arch holds 60;person a weight 40 doubt 9;person b weight 40 doubt 9;");
        c.promise(39, "(1; 6: it can't be)");
        c.refused(x, "a set that can't be, with one who is none", x.cheapest(5), 1);
        c.promise(40, "(1: none of the set, too; 6)");
        c.refused(x, "a set that can't be, of which he is none", x.mate(1, 1), 1);
        c.refused(x, "a set that can't be, and no PERSON", x.mate(1, 2), 1);
        c.refused(x, "a set with one who is none", x.mate(5, 0), 1);
        c.promise(41, "(1; 6: by none: an ARCH can't HOLD so much)");
        c.refused(x, "a set that can't be, with one who is none", x.mends(6), 1);
        c.promise(42, "(1; 6)");
        c.refused(x, "a set that can't be, and no ARCH", x.mendsAt(1, 1), 1);
        c.refused(x, "a set that can't be, with one who is none", x.mendsAt(5, 0), 1);
        LeapArches y = new LeapArches();
        c.promise(36, "(6: no ARCHES)");
        c.refused(y, "no ARCHES", y.weakest(), 6);
        c.promise(42, "(1; 6)");
        c.refused(y, "the empty set, no ARCHES", y.mendsAt(0, 0), 1);
    }

    private static void doubts(Check c) {
        LeapArches x = States.rich();
        c.promise(43, "(1; 2; 3; 5)");
        c.refused(x, "no PERSON, MISSING", x.fits(3, 3, 0), 1);
        c.refused(x, "too many twos, MISSING", x.fits(0, 3, 21), 1);
        c.refused(x, "MISSING, too few", x.fits(0, 3, 1), 2);
        c.refused(x, "too few, and a number that can't be", x.fits(0, 0, 4), 3);
        c.refused(x, "a number that can't be", x.fits(0, 0, 3), 5);
        c.promise(44, "(1: k below 0, too; 2; 3; 5; 6: no such)");
        c.refused(x, "k below 0, MISSING", x.fitsAt(0, 3, 0, -1), 1);
        c.refused(x, "k below 0, too few", x.fitsAt(0, 0, 4, -1), 1);
        c.refused(x, "k below 0, a number that can't be", x.fitsAt(0, 0, 2, -1), 1);
        c.refused(x, "MISSING, too few, no such", x.fitsAt(0, 3, 1, 10), 2);
        c.refused(x, "too few, a number that can't be, no such", x.fitsAt(0, 0, 4, 10), 3);
        c.refused(x, "a number that can't be, no such", x.fitsAt(0, 0, 2, 10), 5);
        c.refused(x, "no such", x.fitsAt(0, 0, 1, 10), 6);
        c.promise(45, "(1; 2; 3; 5; 6: fewer than two)");
        c.refused(x, "no PERSON, MISSING", x.ask(-1, 3, 0), 1);
        c.refused(x, "twos below 0, MISSING", x.ask(0, 3, -1), 1);
        c.refused(x, "MISSING, too few", x.ask(0, 3, 1), 2);
        c.refused(x, "too few, and a number that can't be", x.ask(0, 0, 4), 3);
        // FOG 0 and REACH 0 fits nobody who gets over ARCH 0; then comes FOG 6.
        States.lay(x, 0, 0, 0, 0, 6, 0);
        c.refused(x, "fewer than two", x.ask(2, 0, 1), 6);
        c.refused(x, "a number that can't be, fewer than two", x.ask(2, 0, 2), 5);
    }

    private static void copies(Check c) {
        LeapArches x = States.rich();
        c.promise(52, "(1; 2; 3)");
        c.refused(x, "no TRAY", x.copyAt(4), 1);
        c.refused(x, "MISSING", x.copyAt(3), 2);
        c.refused(x, "too few places", x.copyAt(1), 3);
    }

    private static void decades(Check c) {
        LeapArches x = new LeapArches();
        c.promise(53, "(1; 6: no DECADES)");
        c.refused(x, "no DECADES, no such seed", x.live(-1), 1);
        c.refused(x, "no DECADES, no such seed", x.live(10000), 1);
        c.promise(54, "(1; 6: there was none)");
        c.refused(x, "there was none, and no such number", x.lived(-1), 1);
        c.refused(x, "there was none, and no such number", x.lived(5), 1);
        c.promise(55, "(1: the last above 9,999, too; 6: no DECADES)");
        c.refused(x, "no DECADES, no such seed", x.mean(-1, 1), 1);
        c.refused(x, "no DECADES, no seeds", x.mean(0, 0), 1);
        c.refused(x, "no DECADES, the last above 9,999", x.mean(9999, 2), 1);
        c.refused(x, "no DECADES, the last above 9,999 by wrapping around", x.mean(Integer.MAX_VALUE, 20), 1);
    }
}
