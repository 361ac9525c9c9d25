/** The edges of promises 1 to 8: a new object, STATUS, the FRACTION, TRAYS. */
public final class TrayEdgesTest {
    public static void main(String[] args) {
        Check c = new Check("TrayEdgesTest");
        everythingOfANewObject(c);
        everyNewObjectIsItsOwn(c);
        statusOfCallsThatHaveNone(c);
        fractionsOfNought(c);
        fractionsWithoutACommonDivisor(c);
        theLastCall(c);
        emptyAndFullTrays(c);
        aTrayThatIsLaidAnew(c);
        numbersAtTheEndsOfTheirSorts(c);
        firstAndLastPlaces(c);
        minusOneAndNone(c);
        pouringNothing(c);
        pouringWholeRows(c);
        pouringOntoItself(c);
        c.end();
    }

    private static void everythingOfANewObject(Check c) {
        c.promise(1, "A VIADUCT of nothing; NET 3, FOG 0, ODDS 2; DAY 0; no DECADES, MARKS; TRAYS are MISSING; an empty tape; the FRACTION 0 by 1; STATUS 0.");
        c.due("STATUS", new LeapArches().status(), 0);
        c.due("the FRACTION", new LeapArches().top(), 0);
        c.due("the FRACTION", new LeapArches().bottom(), 1);
        c.due("an empty tape", new LeapArches().feed(0, 0, 0, 0, 0), 20);
        LeapArches x = new LeapArches();
        c.refused(x, "no MARKS", x.undo(), 6);
        x = new LeapArches();
        c.refused(x, "no DECADES", x.live(0), 6);
        x = new LeapArches();
        c.refused(x, "nothing LIVED", x.lived(0), 6);
        x = new LeapArches();
        c.refused(x, "nothing on the tape", x.viaduct(1), 1);
        c.promise(1, "TRAYS 0 to 3 are MISSING at first");
        for (int tray = 0; tray < 4; tray++) {
            x = new LeapArches();
            c.refused(x, "TRAY " + tray, x.read(tray, 0), 2);
            c.refused(x, "TRAY " + tray, x.write(tray, 0, 1), 2);
            c.refused(x, "TRAY " + tray, x.pour(tray, 0, tray, 0, 0), 2);
        }
        c.refused(x, "no TRAY", x.read(4, 0), 1);
        c.refused(x, "no TRAY", x.read(-1, 0), 1);
    }

    private static void everyNewObjectIsItsOwn(Check c) {
        c.promise(1, "A VIADUCT of nothing");
        LeapArches busy = States.full();
        String fresh = Whole.seen(new LeapArches());
        c.due("another object is full", Whole.seen(busy).equals(fresh), false);
        String want = "FRACTION 0/1 fault -1 -1 -1 told 0 0 0 3 0 2 0 0 0 0 tray status 2 tray status 2 tray status 2 tray status 2 lived -1 -1 -1 -1 -1 status 6";
        c.due("a new one: " + fresh, fresh.equals(want), true);
    }

    private static void statusOfCallsThatHaveNone(Check c) {
        c.promise(2, "STATUS of the latest call that has one.");
        LeapArches x = new LeapArches();
        int[] status = {1, 6, 2, 0};
        for (int want : status) {
            if (want == 1) {
                x.told(10);
            } else if (want == 6) {
                x.weakest();
            } else if (want == 2) {
                x.read(0, 0);
            } else {
                x.told(0);
            }
            c.due("status()", x.status(), want);
            c.due("status() once more", x.status(), want);
            x.top();
            x.bottom();
            x.fault(0);
            x.fault(-1);
            c.due("behind top(), bottom(), fault()", x.status(), want);
            x.feed(1, 2, 3, 4, 5);
            c.due("behind feed()", x.status(), want);
        }
        for (int i = 0; i < 45; i++) {
            x.feed(0, 0, 0, 0, 0);
        }
        x.undo();
        c.due("a feed() that is NONE", x.feed(0, 0, 0, 0, 0), -1);
        c.due("behind it", x.status(), 6);
    }

    private static void fractionsOfNought(Check c) {
        LeapArches x = Check.withViaduct("odds 16;arch holds 9;person a weight 3;person b weight 40 doubt 0;");
        c.promise(3, "0 is 0 by 1");
        c.fraction(x, "chance(0), by ODDS 16", x.chance(0), 0, 1);
        c.fraction(x, "hope(0, 0)", x.hope(0, 0), 1, 1);
        c.fraction(x, "chance(1), stopped", x.chance(1), 0, 1);
        c.fraction(x, "hope(0, 0)", x.hope(0, 0), 1, 1);
        c.fraction(x, "hope(0, 9), no such ARCHES", x.hope(0, 9), 0, 1);
        Check.decades(x, "day 1;");
        x.hope(0, 0);
        c.fraction(x, "mean(0, 20) of none behind", x.mean(0, 20), 0, 1);
    }

    private static void fractionsWithoutACommonDivisor(Check c) {
        c.promise(4, "FRACTIONS are told by top() and bottom() without a common divisor, the bottom above 0");
        long[][] one = {{1, 1}, {15, 16}, {7, 8}, {13, 16}, {3, 4}, {11, 16}, {5, 8}, {9, 16}, {1, 2}, {7, 16}, {3, 8}, {5, 16}, {1, 4}, {3, 16}, {1, 8}, {1, 16}, {0, 1}};
        LeapArches x = Check.withViaduct("arch holds 9;arch holds 9;person a weight 3 doubt 0;");
        for (int odds = 0; odds <= 16; odds++) {
            x.rule(5, odds);
            c.fraction(x, "hope(0, 1) by ODDS " + odds, x.hope(0, 1), one[odds][0], one[odds][1]);
            long top = one[odds][0] * one[odds][0];
            c.fraction(x, "chance(0) by ODDS " + odds, x.chance(0), top, top == 0 ? 1 : one[odds][1] * one[odds][1]);
        }
        Check.decades(x, "run a;");
        for (int many = 1; many <= 20; many++) {
            c.fraction(x, "mean(0, " + many + ") of two behind", x.mean(0, many), 2, 1);
        }
    }

    private static void theLastCall(Check c) {
        c.promise(2, "An object is used for at most 512 calls after it has been made");
        LeapArches x = new LeapArches();
        x.tray(0, 2, 60);
        for (int i = 0; i < 509; i++) {
            x.write(0, i % 60, i);
        }
        c.due("the 511th call", x.read(0, 508 % 60), 508);
        c.due("the 512th call", x.read(0, 500 % 60), 500);
    }

    private static void emptyAndFullTrays(Check c) {
        c.promise(5, "rows of 0 to 60 numbers of 8 bits (sort 0), 16 (1), 32 (2) or 64 (3)");
        for (int sort = 0; sort < 4; sort++) {
            LeapArches x = new LeapArches();
            c.given(x, "tray(0, " + sort + ", 0)", x.tray(0, sort, 0));
            c.refused(x, "an empty one has no place", x.read(0, 0), 3);
            c.given(x, "tray(3, " + sort + ", 60)", x.tray(3, sort, 60));
            for (int place = 0; place < 60; place++) {
                c.given(x, "read(3, " + place + ")", x.read(3, place), 0);
            }
            c.refused(x, "read(3, 60)", x.read(3, 60), 3);
            c.refused(x, "61 numbers", x.tray(3, sort, 61), 1);
            c.refused(x, "-1 numbers", x.tray(3, sort, -1), 1);
            c.given(x, "it is still there", x.read(3, 59), 0);
        }
    }

    private static void aTrayThatIsLaidAnew(Check c) {
        c.promise(5, "A TRAY is a row of so many 0s");
        LeapArches x = new LeapArches();
        for (int tray = 0; tray < 4; tray++) {
            States.lay(x, tray, 3, 1L << 40, 2, 3);
        }
        c.given(x, "shorter", x.tray(1, 0, 1));
        c.given(x, "a 0", x.read(1, 0), 0);
        c.refused(x, "no second one", x.read(1, 1), 3);
        c.given(x, "longer again", x.tray(1, 0, 3));
        c.given(x, "no old number comes back", x.read(1, 1) + x.read(1, 2), 0);
        x.write(1, 0, 256);
        c.given(x, "of the new sort", x.read(1, 0), 0);
        c.given(x, "the one ahead stays", x.read(0, 0), 1L << 40);
        c.given(x, "the one behind stays", x.read(2, 0), 1L << 40);
    }

    private static void numbersAtTheEndsOfTheirSorts(Check c) {
        c.promise(6, "cut to its sort");
        LeapArches x = new LeapArches();
        for (int sort = 0; sort < 3; sort++) {
            int bits = 8 << sort;
            long top = (1L << bits - 1) - 1;
            long all = 1L << bits;
            x.tray(sort, sort, 1);
            long[][] cut = {{top, top}, {top + 1, -top - 1}, {-top - 1, -top - 1}, {-top - 2, top}, {all - 1, -1}, {all, 0}, {all + 1, 1}, {-all, 0},
                {-all - 1, -1}, {Long.MAX_VALUE, -1}, {Long.MIN_VALUE, 0}, {Long.MIN_VALUE + 1, 1}, {-1, -1}, {0, 0}};
            for (long[] pair : cut) {
                c.given(x, "write(" + sort + ", 0, " + pair[0] + ")", x.write(sort, 0, pair[0]));
                c.given(x, "read(" + sort + ", 0) of " + pair[0], x.read(sort, 0), pair[1]);
            }
        }
        x.tray(3, 3, 1);
        for (long v : new long[] {Long.MAX_VALUE, Long.MIN_VALUE, -1, 0, 1L << 32}) {
            c.given(x, "write(3, 0, " + v + ")", x.write(3, 0, v));
            c.given(x, "read(3, 0)", x.read(3, 0), v);
        }
    }

    private static void firstAndLastPlaces(Check c) {
        c.promise(6, "A number comes to a place of a TRAY");
        LeapArches x = new LeapArches();
        x.tray(0, 1, 60);
        c.given(x, "the first", x.write(0, 0, 7));
        c.given(x, "the last", x.write(0, 59, 8));
        c.refused(x, "behind the last", x.write(0, 60, 9), 3);
        c.refused(x, "ahead of the first", x.write(0, -1, 9), 3);
        long sum = 0;
        for (int place = 1; place < 59; place++) {
            sum += Math.abs(x.read(0, place));
        }
        c.due("none else is changed", sum, 0);
        c.promise(7, "The number in a place of a TRAY");
        c.given(x, "the first", x.read(0, 0), 7);
        c.given(x, "the last", x.read(0, 59), 8);
        c.refused(x, "behind the last", x.read(0, 60), 3);
        c.refused(x, "ahead of the first", x.read(0, -1), 3);
    }

    private static void minusOneAndNone(Check c) {
        c.promise(7, "STATUS tells NONE from -1");
        LeapArches x = new LeapArches();
        for (int sort = 0; sort < 4; sort++) {
            States.lay(x, 0, sort, -1);
            c.given(x, "a -1 of sort " + sort, x.read(0, 0), -1);
            c.refused(x, "NONE", x.read(0, 1), 3);
            c.given(x, "a -1 again", x.read(0, 0), -1);
        }
    }

    private static void row(Check c, LeapArches x, int tray, long... want) {
        for (int i = 0; i < want.length; i++) {
            c.given(x, "read(" + tray + ", " + i + ")", x.read(tray, i), want[i]);
        }
        c.refused(x, "behind the row", x.read(tray, want.length), 3);
    }

    private static void pouringNothing(Check c) {
        c.promise(8, "So many numbers of a TRAY, from a place on");
        LeapArches x = new LeapArches();
        States.lay(x, 0, 1, 5, 6);
        States.lay(x, 1, 1);
        c.given(x, "none from the first place", x.pour(0, 0, 1, 0, 0));
        c.given(x, "none from behind the last", x.pour(0, 2, 1, 0, 0));
        c.given(x, "none of none", x.pour(1, 0, 1, 0, 0));
        c.given(x, "none to behind the last", x.pour(1, 0, 0, 2, 0));
        c.refused(x, "none from further", x.pour(0, 3, 1, 0, 0), 3);
        c.refused(x, "none to further", x.pour(0, 0, 1, 1, 0), 3);
        c.refused(x, "one of none", x.pour(1, 0, 0, 0, 1), 3);
        c.refused(x, "one to none", x.pour(0, 0, 1, 0, 1), 3);
        row(c, x, 0, 5, 6);
    }

    private static void pouringWholeRows(Check c) {
        c.promise(8, "come to another one's (or its own) place on, as they were");
        LeapArches x = new LeapArches();
        x.tray(0, 3, 60);
        x.tray(1, 3, 60);
        for (int i = 0; i < 60; i++) {
            x.write(0, i, Long.MIN_VALUE + i);
        }
        c.given(x, "all sixty", x.pour(0, 0, 1, 0, 60));
        c.given(x, "the first", x.read(1, 0), Long.MIN_VALUE);
        c.given(x, "the last", x.read(1, 59), Long.MIN_VALUE + 59);
        c.refused(x, "sixty-one", x.pour(0, 0, 1, 0, 61), 3);
        c.refused(x, "sixty from 1 on", x.pour(0, 1, 1, 0, 60), 3);
        c.refused(x, "sixty to 1 on", x.pour(0, 0, 1, 1, 60), 3);
        c.given(x, "the last to the first", x.pour(0, 59, 1, 0, 1));
        c.given(x, "the first to the last", x.pour(0, 0, 1, 59, 1));
        c.given(x, "the first", x.read(1, 0), Long.MIN_VALUE + 59);
        c.given(x, "the last", x.read(1, 59), Long.MIN_VALUE);
        c.given(x, "the second as it was", x.read(1, 1), Long.MIN_VALUE + 1);
        c.given(x, "where they came from all is as it was", x.read(0, 59), Long.MIN_VALUE + 59);
    }

    private static void pouringOntoItself(Check c) {
        c.promise(8, "(or its own)");
        LeapArches x = new LeapArches();
        States.lay(x, 2, 0, 1, 2, 3, 4);
        c.given(x, "one on", x.pour(2, 0, 2, 1, 3));
        row(c, x, 2, 1, 1, 2, 3);
        c.given(x, "one back", x.pour(2, 1, 2, 0, 3));
        row(c, x, 2, 1, 2, 3, 3);
        c.given(x, "to where they are", x.pour(2, 0, 2, 0, 4));
        row(c, x, 2, 1, 2, 3, 3);
        c.refused(x, "one too far", x.pour(2, 0, 2, 1, 4), 3);
        row(c, x, 2, 1, 2, 3, 3);
    }
}
