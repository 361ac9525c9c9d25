/** Promises 1 to 4: a new object, status(), top(), bottom(). */
public final class NewObjectTest {
    public static void main(String[] args) {
        Check c = new Check("NewObjectTest");
        aNewObject(c);
        statusIsOfTheLatestCallThatHasOne(c);
        fractionsStayWhenACallIsRefused(c);
        c.end();
    }

    private static void aNewObject(Check c) {
        LeapArches x = new LeapArches();
        c.due("status()", x.status(), 0);
        c.due("top()", x.top(), 0);
        c.due("bottom()", x.bottom(), 1);
        c.due("NONE", LeapArches.NONE, -1);
        int[] told = {0, 0, 0, 3, 0, 2, 0, 0, 0, 0};
        for (int what = 0; what < told.length; what++) {
            c.due("told(" + what + ")", x.told(what), told[what]);
        }
        for (int tray = 0; tray < 4; tray++) {
            c.refused(x, "read(" + tray + ", 0)", x.read(tray, 0), 2);
        }
        c.due("fault(0)", x.fault(0), -1);
        c.due("fault(1)", x.fault(1), -1);
        c.refused(x, "live(0)", x.live(0), 6);
        c.refused(x, "mean(0, 1)", x.mean(0, 1), 6);
        c.refused(x, "undo()", x.undo(), 6);
        c.refused(x, "viaduct(1)", x.viaduct(1), 1);
        c.due("feed", x.feed(0, 0, 0, 0, 0), 20);
    }

    private static void statusIsOfTheLatestCallThatHasOne(Check c) {
        LeapArches x = new LeapArches();
        x.reach(0);
        c.due("status()", x.status(), 1);
        x.top();
        x.bottom();
        x.status();
        x.fault(0);
        x.fault(7);
        x.feed(0, 0, 0, 0, 0);
        c.due("status() behind calls without one", x.status(), 1);
        x.most();
        c.due("status()", x.status(), 0);
        for (int i = 0; i < 50; i++) {
            x.feed(0, 0, 0, 0, 0);
        }
        c.due("status() behind a tape that is full", x.status(), 0);
    }

    private static void fractionsStayWhenACallIsRefused(Check c) {
        LeapArches x = Check.withViaduct("arch holds 9; person a weight 3;");
        c.fraction(x, "chance(0)", x.chance(0), 7, 8);
        c.refused(x, "chance(1)", x.chance(1), 1);
        c.refused(x, "hope(0, 10)", x.hope(0, 10), 1);
        c.refused(x, "mean(0, 1)", x.mean(0, 1), 6);
        c.due("top()", x.top(), 7);
        c.due("bottom()", x.bottom(), 8);
        x.viaduct(0);
        c.due("top() of another viaduct", x.top(), 7);
    }
}
