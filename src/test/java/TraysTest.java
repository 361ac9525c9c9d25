/** Promises 5 to 8: tray(), write(), read(), pour(). */
public final class TraysTest {
    public static void main(String[] args) {
        Check c = new Check("TraysTest");
        traysAreRowsOfNoughts(c);
        numbersAreCutToTheirSort(c);
        placesThatAreNot(c);
        pouring(c);
        pouringIsAskedInOrder(c);
        traysStayBehindTextsAndUndo(c);
        c.end();
    }

    private static void traysAreRowsOfNoughts(Check c) {
        LeapArches x = new LeapArches();
        c.due("tray(0, 0, 60)", x.tray(0, 0, 60), true);
        c.due("status()", x.status(), 0);
        c.due("read(0, 59)", x.read(0, 59), 0);
        c.due("tray(3, 3, 0)", x.tray(3, 3, 0), true);
        c.refused(x, "read(3, 0)", x.read(3, 0), 3);
        c.due("write(0, 5, 9)", x.write(0, 5, 9), true);
        c.refused(x, "tray(-1, 0, 1)", x.tray(-1, 0, 1), 1);
        c.refused(x, "tray(4, 0, 1)", x.tray(4, 0, 1), 1);
        c.refused(x, "tray(0, -1, 1)", x.tray(0, -1, 1), 1);
        c.refused(x, "tray(0, 4, 1)", x.tray(0, 4, 1), 1);
        c.refused(x, "tray(0, 0, -1)", x.tray(0, 0, -1), 1);
        c.refused(x, "tray(0, 0, 61)", x.tray(0, 0, 61), 1);
        c.due("read(0, 5), as it was", x.read(0, 5), 9);
        c.due("tray(0, 1, 6)", x.tray(0, 1, 6), true);
        c.due("read(0, 5), laid anew", x.read(0, 5), 0);
        c.refused(x, "read(0, 6)", x.read(0, 6), 3);
    }

    private static void numbersAreCutToTheirSort(Check c) {
        LeapArches x = new LeapArches();
        long[] wide = {200, 40000, 3000000000L, Long.MIN_VALUE};
        long[][] cut = {
            {-56, 64, 0, 0},
            {200, -25536, 24064, 0},
            {200, 40000, -1294967296, 0},
            {200, 40000, 3000000000L, Long.MIN_VALUE},
        };
        for (int sort = 0; sort < 4; sort++) {
            x.tray(sort, sort, 4);
            for (int i = 0; i < 4; i++) {
                c.due("write(" + sort + ", " + i + ", " + wide[i] + ")", x.write(sort, i, wide[i]), true);
                c.due("read(" + sort + ", " + i + ")", x.read(sort, i), cut[sort][i]);
            }
        }
        x.write(2, 0, -1);
        c.due("read(2, 0)", x.read(2, 0), -1);
        c.due("status() of a -1 that is there", x.status(), 0);
    }

    private static void placesThatAreNot(Check c) {
        LeapArches x = new LeapArches();
        x.tray(1, 2, 2);
        c.refused(x, "write(4, 0, 0)", x.write(4, 0, 0), 1);
        c.refused(x, "write(-1, 0, 0)", x.write(-1, 0, 0), 1);
        c.refused(x, "write(0, 0, 0)", x.write(0, 0, 0), 2);
        c.refused(x, "write(0, 77, 0)", x.write(0, 77, 0), 2);
        c.refused(x, "write(1, 2, 0)", x.write(1, 2, 0), 3);
        c.refused(x, "write(1, -1, 0)", x.write(1, -1, 0), 3);
        c.refused(x, "read(4, 0)", x.read(4, 0), 1);
        c.refused(x, "read(2, 0)", x.read(2, 0), 2);
        c.refused(x, "read(1, 2)", x.read(1, 2), 3);
        c.refused(x, "read(1, -1)", x.read(1, -1), 3);
        c.refused(x, "read(1, 2147483647)", x.read(1, Integer.MAX_VALUE), 3);
        c.refused(x, "read(-2147483648, 0)", x.read(Integer.MIN_VALUE, 0), 1);
    }

    private static void pouring(Check c) {
        LeapArches x = new LeapArches();
        x.tray(0, 2, 6);
        x.tray(1, 2, 3);
        for (int i = 0; i < 6; i++) {
            x.write(0, i, 10 + i);
        }
        c.due("pour(0, 1, 1, 0, 3)", x.pour(0, 1, 1, 0, 3), true);
        row(c, x, 1, 11, 12, 13);
        row(c, x, 0, 10, 11, 12, 13, 14, 15);
        c.due("pour onto itself, on", x.pour(0, 0, 0, 1, 4), true);
        row(c, x, 0, 10, 10, 11, 12, 13, 15);
        c.due("pour onto itself, back", x.pour(0, 2, 0, 0, 4), true);
        row(c, x, 0, 11, 12, 13, 15, 13, 15);
        c.due("pour of nothing", x.pour(0, 6, 1, 3, 0), true);
        c.refused(x, "pour(0, 4, 1, 0, 3)", x.pour(0, 4, 1, 0, 3), 3);
        c.refused(x, "pour(0, 0, 1, 1, 3)", x.pour(0, 0, 1, 1, 3), 3);
        c.refused(x, "pour(0, 7, 1, 0, 0)", x.pour(0, 7, 1, 0, 0), 3);
        c.refused(x, "pour(0, MAX, 1, 0, MAX)", x.pour(0, Integer.MAX_VALUE, 1, 0, Integer.MAX_VALUE), 3);
        row(c, x, 1, 11, 12, 13);
    }

    private static void pouringIsAskedInOrder(Check c) {
        LeapArches x = new LeapArches();
        x.tray(0, 0, 2);
        x.tray(1, 1, 2);
        c.refused(x, "pour(4, 0, 0, 0, 1)", x.pour(4, 0, 0, 0, 1), 1);
        c.refused(x, "pour(0, 0, -1, 0, 1)", x.pour(0, 0, -1, 0, 1), 1);
        c.refused(x, "pour(2, -1, 0, 0, 1)", x.pour(2, -1, 0, 0, 1), 1);
        c.refused(x, "pour(2, 0, 0, -1, 1)", x.pour(2, 0, 0, -1, 1), 1);
        c.refused(x, "pour(2, 0, 0, 0, -1)", x.pour(2, 0, 0, 0, -1), 1);
        c.refused(x, "pour(2, 0, 0, 9, 1)", x.pour(2, 0, 0, 9, 1), 2);
        c.refused(x, "pour(0, 0, 3, 0, 1)", x.pour(0, 0, 3, 0, 1), 2);
        c.refused(x, "pour(0, 0, 1, 9, 1)", x.pour(0, 0, 1, 9, 1), 8);
        c.refused(x, "pour(0, 0, 0, 2, 1)", x.pour(0, 0, 0, 2, 1), 3);
    }

    private static void traysStayBehindTextsAndUndo(Check c) {
        LeapArches x = new LeapArches();
        x.tray(0, 0, 1);
        x.mark();
        x.write(0, 0, 7);
        x.undo();
        x.viaduct(0);
        c.due("read(0, 0)", x.read(0, 0), 7);
    }

    private static void row(Check c, LeapArches x, int tray, long... want) {
        for (int i = 0; i < want.length; i++) {
            c.due("read(" + tray + ", " + i + ")", x.read(tray, i), want[i]);
        }
    }
}
