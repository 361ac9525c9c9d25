/** The edges of promises 56 and 57: MARKS. */
public final class MarkEdgesTest {
    public static void main(String[] args) {
        Check c = new Check("MarkEdgesTest");
        noneToThree(c);
        aFourthLeavesAll(c);
        theLatestIsGoneThen(c);
        nothingIsTakenBack(c);
        everythingIsTakenBack(c);
        anotherViaductIsTakenBack(c);
        decadesAreTakenBack(c);
        everyKindOfStepIsTakenBack(c);
        whatIsNotKept(c);
        c.end();
    }

    private static void noneToThree(Check c) {
        c.promise(56, "A MARK more: how many there are (4).");
        LeapArches x = new LeapArches();
        for (int many = 1; many <= 3; many++) {
            c.given(x, "mark()", x.mark(), many);
        }
        c.refused(x, "a fourth", x.mark(), 4);
        c.refused(x, "a fourth again", x.mark(), 4);
        c.promise(57, "All is taken back to the latest MARK: how many there are left (6).");
        for (int left = 2; left >= 0; left--) {
            c.given(x, "undo()", x.undo(), left);
        }
        c.refused(x, "none is left", x.undo(), 6);
        c.refused(x, "none is left", x.undo(), 6);
        c.promise(56, "MARKS, at most 3");
        c.given(x, "there is room again", x.mark(), 1);
        c.given(x, "and it is taken back to", x.undo(), 0);
    }

    private static void aFourthLeavesAll(Check c) {
        c.promise(56, "MARKS, at most 3");
        LeapArches x = Check.withViaduct("arch holds 9;");
        for (int i = 0; i < 3; i++) {
            x.mark();
            x.jump(0);
        }
        c.refused(x, "a fourth", x.mark(), 4);
        c.given(x, "undo(), to the third", x.undo(), 2);
        c.due("HOLDS", x.arch(0, 0), 11);
        c.given(x, "undo(), to the second", x.undo(), 1);
        c.due("HOLDS", x.arch(0, 0), 10);
        c.given(x, "undo(), to the first", x.undo(), 0);
        c.due("HOLDS", x.arch(0, 0), 9);
    }

    private static void theLatestIsGoneThen(Check c) {
        c.promise(57, "all is taken back to the latest MARK, which is gone then");
        LeapArches x = Check.withViaduct("arch holds 9;");
        x.mark();
        x.jump(0);
        x.mark();
        x.jump(0);
        x.undo();
        x.jump(0);
        x.jump(0);
        c.given(x, "undo(), not to the one that is gone", x.undo(), 0);
        c.due("HOLDS", x.arch(0, 0), 9);
        x.jump(0);
        c.refused(x, "none is left", x.undo(), 6);
        c.due("HOLDS, as it is", x.arch(0, 0), 10);
    }

    private static void nothingIsTakenBack(Check c) {
        c.promise(57, "the DECADES are kept as they are");
        LeapArches x = States.rich();
        x.mark();
        c.given(x, "undo() at once", x.undo(), 2);
        c.due("all is as it was", Whole.seen(x).equals(Whole.seen(States.rich())), true);
        c.due("the DECADES, too", Whole.lives(x).equals(Whole.lives(States.rich())), true);
        LeapArches fresh = new LeapArches();
        fresh.mark();
        fresh.build(1, 1);
        fresh.come(1);
        fresh.sow(1, 1);
        fresh.day(1);
        fresh.rule(3, 9);
        fresh.undo();
        c.due("a VIADUCT of nothing", Whole.viaduct(fresh).equals(Whole.viaduct(new LeapArches())), true);
        c.refused(fresh, "no ARCH", fresh.arch(0, 0), 1);
        c.refused(fresh, "no PERSON", fresh.person(0, 0), 1);
        c.refused(fresh, "no PLANT", fresh.plant(0, 0), 1);
    }

    private interface Deed {
        void on(LeapArches x);
    }

    private static void everythingIsTakenBack(Check c) {
        c.promise(57, "the VIADUCT with all that became of it");
        Deed[] deeds = {x -> x.run(0), x -> x.rope(0, 1), x -> x.jump(2), x -> x.home(0), x -> x.day(1), x -> x.teach(1, 0, 1), x -> x.teach(1, 1, 1),
            x -> x.teach(1, 2, 1), x -> x.come(9), x -> x.build(9, 9), x -> x.sow(9, 9), x -> x.rule(3, 9), x -> x.rule(4, 5), x -> x.rule(5, 16),
            x -> x.live(3), x -> x.viaduct(0), x -> x.viaduct(States.RICH_TAPE)};
        String ahead = Whole.viaduct(States.rich());
        for (int i = 0; i < deeds.length; i++) {
            LeapArches x = States.rich();
            x.mark();
            deeds[i].on(x);
            c.due("it is done: " + i, x.status(), 0);
            c.due("all is another: " + i, Whole.viaduct(x).equals(ahead), false);
            c.given(x, "undo()", x.undo(), 2);
            c.due("all is as it was: " + i, Whole.viaduct(x).equals(ahead), true);
            c.due("the DECADES, too: " + i, Whole.lives(x).equals(Whole.lives(States.rich())), true);
        }
    }

    private static void anotherViaductIsTakenBack(Check c) {
        c.promise(57, "All is taken back to the latest MARK");
        LeapArches x = States.full();
        c.refused(x, "three MARKS are there", x.mark(), 4);
        x.undo();
        String ahead = Whole.viaduct(x);
        x.mark();
        c.given(x, "another VIADUCT", x.viaduct(900), 1);
        c.due("MARKS stay", x.mark(), -1);
        x.come(3);
        x.run(0);
        x.day(3);
        c.given(x, "undo()", x.undo(), 2);
        c.due("the old VIADUCT", Whole.viaduct(x).equals(ahead), true);
        c.given(x, "its NAMES", Check.decades(x, "run abcdefgh;"), 1);
    }

    private static void decadesAreTakenBack(Check c) {
        c.promise(57, "the DECADES are kept as they are");
        LeapArches x = Check.withViaduct("arch holds 9;person a weight 3;");
        x.mark();
        Check.decades(x, "any;");
        x.mark();
        Check.decades(x, "any;any;");
        x.mark();
        x.viaduct(0);
        c.refused(x, "no DECADES", x.live(0), 6);
        x.undo();
        c.given(x, "two STEPS", x.live(0), 2);
        x.undo();
        c.given(x, "one STEP", x.live(0), 1);
        x.undo();
        c.refused(x, "no DECADES", x.live(0), 6);
    }

    private static void everyKindOfStepIsTakenBack(Check c) {
        c.promise(57, "the DECADES are kept as they are");
        String ground = "net 0;odds 8;arch holds 30 moss 4 toll 2;arch holds 30 toll 3;arch holds 9;person a weight 3;person b weight 4;";
        String[] texts = {"run b;rope a b;jump 2;home a;day 3;fog 2;any;", "when over a;stop;end;when at b < 2;jump 1;end;when moss 0 > 3;any;end;day 1;",
            "loop 3;when moss 1 = 0;day 2;end;jump 0;end;rope b a;stop;any;", "loop 2;loop 3;any;end;end;when at a > 0;when over b;fog 1;end;home a;end;"};
        for (String kept : texts) {
            LeapArches plain = Check.withViaduct(ground);
            Check.decades(plain, kept);
            String want = Whole.lives(plain);
            for (String other : texts) {
                LeapArches x = Check.withViaduct(ground);
                Check.decades(x, kept);
                x.mark();
                Check.decades(x, other);
                c.due("other DECADES", x.status(), 0);
                x.undo();
                c.due("\"" + kept + "\" behind \"" + other + "\"", Whole.lives(x).equals(want), true);
            }
        }
    }

    private static void whatIsNotKept(Check c) {
        c.promise(57, "the VIADUCT with all that became of it, the DECADES are kept as they are");
        LeapArches x = States.rich();
        x.mark();
        x.write(0, 0, 99);
        x.tray(3, 1, 4);
        x.hope(0, 0);
        x.live(9);
        int missed = x.lived(0) * 1000 + x.lived(3);
        x.feed(0, 0, 0, 0, 0);
        x.undo();
        c.due("a number in a TRAY stays", x.read(0, 0), 99);
        c.due("a TRAY stays", x.read(3, 3), 0);
        c.due("the FRACTION stays", x.top() + x.bottom(), 2);
        c.due("what was LIVED stays", x.lived(0) * 1000 + x.lived(3), missed);
        c.due("the tape stays", x.feed(0, 0, 0, 0, 0), States.RICH_TAPE + 40);
        c.due("what fault() tells stays", x.fault(0) * 10 + x.fault(1), 23);
    }
}
