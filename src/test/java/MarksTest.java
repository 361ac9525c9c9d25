/** Promises 56 and 57: mark(), undo(). */
public final class MarksTest {
    private static final String GROUND = "net 1;arch holds 9 toll 2;arch holds 9;arch holds 3 moss 2;person a weight 8;person bb weight 7 doubt 0;plant 3 joy 4;";

    public static void main(String[] args) {
        Check c = new Check("MarksTest");
        atMostThree(c);
        allIsTakenBack(c);
        theLatestFirst(c);
        viaductsAndDecadesAreTakenBack(c);
        everyKindOfStepIsTakenBack(c);
        whatIsNotOfTheViaductStays(c);
        c.end();
    }

    private static void atMostThree(Check c) {
        LeapArches x = new LeapArches();
        c.refused(x, "undo()", x.undo(), 6);
        c.due("mark()", x.mark(), 1);
        c.due("mark()", x.mark(), 2);
        c.due("mark()", x.mark(), 3);
        c.due("status()", x.status(), 0);
        c.refused(x, "mark(), a fourth", x.mark(), 4);
        c.due("undo()", x.undo(), 2);
        c.due("mark()", x.mark(), 3);
        c.due("undo()", x.undo(), 2);
        c.due("undo()", x.undo(), 1);
        c.due("undo()", x.undo(), 0);
        c.due("status()", x.status(), 0);
        c.refused(x, "undo()", x.undo(), 6);
    }

    /** All that can be told of a VIADUCT, as one text. */
    private static String all(LeapArches x) {
        StringBuilder s = new StringBuilder();
        for (int what = 0; what < 10; what++) {
            s.append(x.told(what)).append(' ');
        }
        int[] many = {x.told(0), x.told(1), x.told(2)};
        for (int i = 0; i < many[0]; i++) {
            s.append("| ").append(x.arch(i, 0)).append(' ').append(x.arch(i, 1)).append(' ').append(x.arch(i, 2)).append(' ');
        }
        for (int i = 0; i < many[1]; i++) {
            s.append("| ");
            for (int what = 0; what < 6; what++) {
                s.append(x.person(i, what)).append(' ');
            }
        }
        for (int i = 0; i < many[2]; i++) {
            s.append("| ").append(x.plant(i, 0)).append(' ').append(x.plant(i, 1)).append(' ');
        }
        return s.toString();
    }

    private static void allIsTakenBack(Check c) {
        LeapArches x = Check.withViaduct(GROUND);
        x.run(0);
        x.day(3);
        x.jump(1);
        String ahead = all(x);
        x.mark();
        x.run(0);
        x.run(1);
        x.rope(0, 1);
        x.home(1);
        x.jump(0);
        x.day(2);
        x.jump(2);
        x.teach(0, 0, 1);
        x.teach(0, 1, 3);
        x.teach(1, 2, 3);
        x.come(3);
        x.build(4, 4);
        x.sow(5, 5);
        x.rule(3, 5);
        x.rule(4, 5);
        x.rule(5, 5);
        c.due("all is another", all(x).equals(ahead), false);
        c.due("undo()", x.undo(), 0);
        c.due("all is as it was", all(x).equals(ahead), true);
        c.due("come(2) as if none had come", x.come(2), 2);
        c.due("DOUBT of who comes", x.person(2, 1), 1);
    }

    private static void theLatestFirst(Check c) {
        LeapArches x = Check.withViaduct("arch holds 9;");
        for (int i = 0; i < 3; i++) {
            x.mark();
            x.jump(0);
        }
        c.due("HOLDS", x.arch(0, 0), 12);
        for (int i = 2; i >= 0; i--) {
            c.due("undo()", x.undo(), i);
            c.due("HOLDS", x.arch(0, 0), 9 + i);
        }
        x.mark();
        x.jump(0);
        c.due("undo() of a MARK that is made anew", x.undo(), 0);
        c.due("HOLDS", x.arch(0, 0), 9);
    }

    private static void viaductsAndDecadesAreTakenBack(Check c) {
        LeapArches x = Check.withViaduct(GROUND);
        Check.decades(x, "run bb;day 4;");
        x.run(0);
        x.mark();
        String ahead = all(x);
        Check.viaduct(x, "arch holds 9;arch holds 8;arch holds 8;arch holds 8;");
        x.mark();
        Check.decades(x, "jump 3;");
        c.due("live(0)", x.live(0), 1);
        c.due("undo()", x.undo(), 1);
        c.refused(x, "live(0): no DECADES then", x.live(0), 6);
        c.due("undo()", x.undo(), 0);
        c.due("the old VIADUCT", all(x).equals(ahead), true);
        c.due("the old DECADES", x.live(0), 2);
        c.due("AT", x.person(1, 3), 2);
        c.due("DAYS", x.lived(1), 4);
        c.due("the old NAMES", Check.decades(x, "run a;run bb;"), 2);
        x.mark();
        Check.decades(x, "any;any;any;");
        x.undo();
        c.due("the DECADES alone", x.live(0), 2);
    }

    private static void everyKindOfStepIsTakenBack(Check c) {
        String ground = "net 9;arch holds 40 moss 4;arch holds 40;person a weight 3;person b weight 3;";
        String text = "when moss 0 > 3;rope b a;loop 3;jump 1;end;end;when at a < 1;jump 0;end;when over b;fog 2;end;";
        LeapArches plain = Check.withViaduct(ground);
        Check.decades(plain, text);
        LeapArches marked = Check.withViaduct(ground);
        Check.decades(marked, text);
        marked.mark();
        Check.decades(marked, "loop 2;loop 2;when at a=0;run a;end;end;end;rope a b;when over a;any;end;day 3;when moss 1<1;stop;end;");
        marked.live(3);
        marked.undo();
        c.due("STEPS done", marked.live(0), plain.live(0));
        c.due("PAID by the first of the rope", marked.person(1, 4), 2);
        c.due("FOG", marked.told(4), 2);
        c.due("all is as without a MARK", all(marked).equals(all(plain)), true);
    }

    private static void whatIsNotOfTheViaductStays(Check c) {
        LeapArches x = Check.withViaduct(GROUND);
        x.mark();
        x.tray(0, 0, 3);
        x.write(0, 1, 5);
        x.feed(0x72756e20, 0x613b0000, 0, 0, 0);
        c.due("decades(6)", x.decades(6), 1);
        x.live(0);
        x.feed(0x40404040, 0, 0, 0, 0);
        x.hope(0, 1);
        x.undo();
        c.due("a TRAY", x.read(0, 1), 5);
        c.due("the FRACTION", x.top() * 100 + x.bottom(), 708);
        c.due("the tape", x.feed(0, 0, 0, 0, 0), 40);
        c.due("what live() was latest", x.lived(3), 3);
        c.due("fault(0)", x.fault(0), 0);
    }
}
