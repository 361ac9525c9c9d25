/** Objects for the edges to be tried on: one that is new, one with some of everything, one that is full. */
final class States {
    static final int RICH_ARCHES = 4;
    static final int RICH_PEOPLE = 3;
    static final int RICH_PLANTS = 2;
    static final int RICH_TAPE = 40;

    private States() { }

    /** A new object, but that STATUS is another than 0. */
    static LeapArches bare() {
        LeapArches x = new LeapArches();
        x.told(10);
        return x;
    }

    /**
     * PEOPLE 0 and 1 are AT 1, and ARCH 2 stops them; PERSON 2 is OVER. ARCH 1 HOLDS 60 without MOSS.
     * TRAY 0 has twos of which the first can be, TRAY 1 has two places, TRAY 2 forty, TRAY 3 is MISSING; two MARKS.
     */
    static LeapArches rich() {
        return rich("net 7;arch holds 9;person q weight 5;   ");
    }

    static LeapArches rich(String tape) {
        LeapArches x = new LeapArches();
        Check.viaduct(x, "net 1;fog 1;odds 5;arch holds 12 moss 1 toll 2;arch holds 60 toll 3;arch holds 5 moss 2;arch holds 20 toll 0;"
            + "person a weight 8 doubt 2;person bb weight 30 doubt 9 at 1;person d weight 3 love 9 at 4;plant 4 joy 9;plant 30 joy 99;");
        Check.decades(x, "run a;any;when at a > 0;home a;end;loop 3;jump 2;day 1;end;");
        x.mark();
        x.jump(3);
        x.live(5);
        x.mark();
        Check.decades(x, "run a;any;home d;loop 3;jump 3;day 1;any;end;");
        x.jump(0);
        x.jump(0);
        x.home(0);
        x.run(0);
        for (int i = 0; i < 3; i++) {
            x.jump(1);
        }
        lay(x, 0, 0, 1, 1, 6, 0, 0, 5);
        lay(x, 1, 2, 11, -12);
        x.tray(2, 2, 40);
        x.chance(1);
        x.hope(0, 1);
        Check.viaduct(x, "net");
        Check.feed(x, tape);
        return x;
    }

    static LeapArches full() {
        LeapArches x = new LeapArches();
        Check.viaduct(x, "net 0;fog 5;odds 16;" + "arch holds 58 toll 9;".repeat(9) + "person a weight 40;person b weight 40;person d weight 40 doubt 9;"
            + "person e weight 1 at 9;person f weight 1 love 9;person abcdefgh weight 2;" + "plant 1 joy 2;".repeat(8));
        Check.decades(x, "any;".repeat(30));
        x.mark();
        x.live(9999);
        x.mark();
        for (int i = 0; i < 101; i++) {
            x.day(99);
        }
        x.jump(8);
        x.run(0);
        x.mark();
        lay(x, 0, 3, Long.MAX_VALUE, Long.MIN_VALUE);
        for (int tray = 1; tray < 4; tray++) {
            x.tray(tray, tray - 1, 60);
        }
        x.chance(4);
        String text = "arch holds 9;person q weight 5;";
        Check.feed(x, text + " ".repeat(894 - text.length()) + "net 6;");
        return x;
    }

    static void lay(LeapArches x, int tray, int sort, long... row) {
        x.tray(tray, sort, row.length);
        for (int i = 0; i < row.length; i++) {
            x.write(tray, i, row[i]);
        }
    }
}
