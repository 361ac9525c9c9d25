/** The edges of promises 11, 53 to 55: DECADES as a text, LIVED, and their mean. */
public final class DecadesEdgesTest {
    private static final String GROUND = "net 1;odds 8;arch holds 9 toll 2;arch holds 9 moss 1 toll 3;arch holds 9 moss 3;arch holds 60;"
        + "person a weight 8 doubt 0;person abcdefgh weight 7;person d weight 30 doubt 0 at 4;";

    public static void main(String[] args) {
        Check c = new Check("DecadesEdgesTest");
        bytesOfTheText(c);
        noStepsAndThirty(c);
        stepsWithinSteps(c);
        endsOfTheText(c);
        namesOfSteps(c);
        numbersOfSteps(c);
        archesOfSteps(c);
        theFirstFaultAndTheLeast(c);
        decadesInPlaceOfOthers(c);
        missedRuns(c);
        missedRopes(c);
        missedJumpsAndHomes(c);
        missedFogs(c);
        missedDays(c);
        missedAnys(c);
        testsAtTheirEnds(c);
        loopsOfOneAndNinetyNine(c);
        threeHundredSteps(c);
        whatCountsAsAStep(c);
        stops(c);
        drawsThatWrapAround(c);
        seedsAtTheEnds(c);
        whatWasLived(c);
        livedByTheLatest(c);
        meansOfOneAndOfTwenty(c);
        meansLeaveAllAsItIs(c);
        c.end();
    }

    private static LeapArches ground() {
        return Check.withViaduct(GROUND);
    }

    private static LeapArches with(String ground, String decades) {
        LeapArches x = Check.withViaduct(ground);
        Check.decades(x, decades);
        if (x.status() != 0) {
            throw new IllegalStateException("FAULT " + x.fault(0) + " at " + x.fault(1) + " of " + decades);
        }
        return x;
    }

    /** LIVED on that ground: how many STEPS, MISSED, DAYS, FELL, PAID, left. */
    private static LeapArches lives(Check c, String ground, String decades, int seed, int... want) {
        LeapArches x = with(ground, decades);
        c.given(x, "live(" + seed + ") of " + decades, x.live(seed), want[0]);
        for (int what = 0; what < 5 && what + 1 < want.length; what++) {
            c.given(x, "lived(" + what + ") of " + decades, x.lived(what), want[what + 1]);
        }
        return x;
    }

    private static void bytesOfTheText(Check c) {
        c.promise(11, "DECADES are a TEXT of at most 300 bytes");
        LeapArches x = ground();
        Check.feed(x, " ".repeat(296) + "any; ");
        c.refused(x, "301", x.decades(301), 1);
        c.refused(x, "321, more than the tape has", x.decades(321), 1);
        c.refused(x, "-1", x.decades(-1), 1);
        c.given(x, "300, the tape was left", x.decades(300), 1);
        c.refused(x, "the tape is empty then", x.decades(1), 1);
        Check.feed(x, "any;any;@");
        c.given(x, "8 of 20, without what is behind", x.decades(8), 2);
        c.due("all of the tape is gone", x.feed(0, 0, 0, 0, 0), 20);
        c.given(x, "0 of 20", x.decades(0), 0);
        c.due("all of the tape is gone", x.feed(0, 0, 0, 0, 0), 20);
        c.refused(x, "a byte of 0", x.decades(1), 9);
        c.due("the tape is gone with a FAULT, too", x.feed(0, 0, 0, 0, 0), 20);
    }

    private static void noStepsAndThirty(Check c) {
        c.promise(11, "6 a 31st STEP (at its WORD; end is none)");
        LeapArches x = ground();
        c.given(x, "no STEP", Check.decades(x, " \n"), 0);
        c.given(x, "live(0) of no STEP", x.live(0), 0);
        c.given(x, "30", Check.decades(x, "any;".repeat(30)), 30);
        c.decadesFault(x, "any;".repeat(30) + "any", 6, 120);
        c.decadesFault(x, "any;".repeat(30) + "  stop", 6, 122);
        c.given(x, "30, of which 15 have an end", Check.decades(x, "loop 1;any;end;".repeat(15)), 30);
        c.decadesFault(x, "loop 1;any;end;".repeat(15) + "any;", 6, 225);
        c.given(x, "27, each with an end", Check.decades(x, "loop 1;end;".repeat(27)), 27);
    }

    private static void stepsWithinSteps(Check c) {
        c.promise(11, "7 a when, loop within three others (at its WORD)");
        LeapArches x = ground();
        String three = "loop 2;when over a;loop 2;";
        c.given(x, "three", Check.decades(x, three + "any;end;end;end;"), 4);
        c.decadesFault(x, three + "loop", 7, three.length());
        c.decadesFault(x, three + " when", 7, three.length() + 1);
        c.decadesFault(x, three + "any;loop 1;end;end;end;end;", 7, three.length() + 4);
        c.given(x, "behind an end there is room", Check.decades(x, three + "end;loop 3;end;end;end;"), 4);
        c.given(x, "and behind all", Check.decades(x, three + "end;end;end;" + three + "end;end;end;"), 6);
        c.given(x, "other STEPS within three", Check.decades(x, three + "run a;rope a d;jump 0;home a;day 1;fog 1;any;stop;end;end;end;"), 11);
    }

    private static void endsOfTheText(Check c) {
        c.promise(11, "(an end without a beginning; the text's end ahead of an end: 2)");
        LeapArches x = ground();
        c.decadesFault(x, "end", 2, 0);
        c.decadesFault(x, "any; end;", 2, 5);
        c.decadesFault(x, "loop 1;end;end;", 2, 11);
        c.decadesFault(x, "loop 1;", 2, 7);
        c.decadesFault(x, "loop 1; \n", 2, 9);
        c.decadesFault(x, "loop 1;loop 1;end;", 2, 18);
        c.decadesFault(x, "loop 1;end", 2, 10);
        c.decadesFault(x, "loop 1;end any;", 2, 11);
        c.decadesFault(x, "loop 1;end 3;end;", 2, 11);
        c.decadesFault(x, "when over a", 2, 11);
        String whole = "when at abcdefgh < 3; any; end;";
        for (int n = 1; n < whole.length(); n++) {
            Check.feed(x, whole);
            c.refused(x, "decades(" + n + ") of " + whole, x.decades(n), 9);
            // "a" is a PERSON, and so is "abcdefgh".
            c.due("its FAULT: a NAME that is cut is none's", x.fault(0), n >= 10 && n <= 15 ? 3 : 2);
        }
    }

    private static void namesOfSteps(Check c) {
        c.promise(11, "3 a NAME that is no PERSON");
        LeapArches x = ground();
        String[] heads = {"run ", "home ", "rope ", "rope a ", "when over ", "when at "};
        String[] tails = {";", ";", " a;", ";", ";end;", "=0;end;"};
        for (int i = 0; i < heads.length; i++) {
            c.given(x, heads[i] + "abcdefgh", Check.decades(x, heads[i] + "abcdefgh" + tails[i]), 1);
            c.decadesFault(x, heads[i] + "b" + tails[i], 3, heads[i].length());
            c.decadesFault(x, heads[i] + "abcdefg" + tails[i], 3, heads[i].length());
            c.decadesFault(x, heads[i] + "abcdefgi" + tails[i], 3, heads[i].length());
            c.decadesFault(x, heads[i] + "abcdefghi" + tails[i], 2, heads[i].length());
            c.decadesFault(x, heads[i] + "joy" + tails[i], 2, heads[i].length());
            c.decadesFault(x, heads[i] + "7" + tails[i], 2, heads[i].length());
        }
        LeapArches come = new LeapArches();
        come.come(3);
        c.decadesFault(come, "run a;", 3, 4);
        c.given(come, "he who came has no NAME", Check.decades(come, "any;"), 1);
    }

    private static void ends(Check c, String head, String tail, int least, int greatest) {
        LeapArches x = ground();
        c.given(x, head + least, Check.decades(x, head + least + tail), 1);
        c.given(x, head + greatest, Check.decades(x, head + greatest + tail), 1);
        c.given(x, head + "000" + least, Check.decades(x, head + "000" + least + tail), 1);
        c.decadesFault(x, head + (greatest + 1) + tail, 4, head.length());
        c.decadesFault(x, head + "9999" + tail, 4, head.length());
        c.decadesFault(x, head + "10000" + tail, 1, head.length());
        if (least > 0) {
            c.decadesFault(x, head + (least - 1) + tail, 4, head.length());
        }
    }

    private static void numbersOfSteps(Check c) {
        c.promise(11, "day: so many (1 to 40); fog: it is so much (0 to 5); at: how many ARCHES are behind one against 0 to 9; moss: of an ARCH against 0 to 9");
        ends(c, "day ", ";", 1, 40);
        ends(c, "fog ", ";", 0, 5);
        for (String sign : new String[] {"<", ">", "="}) {
            ends(c, "when at a" + sign, ";end;", 0, 9);
            ends(c, "when moss 0" + sign, ";end;", 0, 9);
        }
        c.promise(11, "loop n (1 to 99)");
        ends(c, "loop ", ";end;", 1, 99);
    }

    private static void archesOfSteps(Check c) {
        c.promise(11, "4 a NUMBER that can't be (no such ARCH, too)");
        ends(c, "jump ", ";", 0, 3);
        ends(c, "when moss ", "=0;end;", 0, 3);
        LeapArches none = new LeapArches();
        c.decadesFault(none, "jump 0;", 4, 5);
        c.decadesFault(none, "when moss 0 = 0;end;", 4, 10);
        none.build(3, 1);
        c.given(none, "an ARCH that was built", Check.decades(none, "jump 0;"), 1);
        c.decadesFault(none, "jump 1;", 4, 5);
        LeapArches nine = Check.withViaduct("arch holds 3;".repeat(9));
        c.given(nine, "the ninth", Check.decades(nine, "jump 8;"), 1);
        c.decadesFault(nine, "jump 9;", 4, 5);
    }

    private static void theFirstFaultAndTheLeast(Check c) {
        c.promise(11, "FAULTS: 1, 2 as above");
        LeapArches x = ground();
        c.decadesFault(x, "run z;@", 3, 4);
        c.decadesFault(x, "jump 9;run z;", 4, 5);
        c.decadesFault(x, "rope z 12345;", 3, 5);
        c.decadesFault(x, "any ".repeat(75), 2, 4);
        c.decadesFault(x, "=".repeat(300), 2, 0);
        c.decadesFault(x, "when at abcdefgh < 3 " + "< 3 ".repeat(60), 2, 21);
        c.decadesFault(x, "rope a 12345;", 1, 7);
        c.decadesFault(x, "loop 1;loop 1;loop 1;loop 0;", 7, 21);
        c.promise(11, "6 a 31st STEP");
        c.decadesFault(x, "loop 1;loop 1;loop 1;" + "any;".repeat(27) + "when", 6, 129);
        c.decadesFault(x, "any;".repeat(30) + "end;", 2, 120);
        c.decadesFault(x, "any;".repeat(30) + "net", 2, 120);
        c.decadesFault(x, "any;".repeat(30) + "12345", 1, 120);
        c.promise(11, "2 it can't stand there");
        for (String word : new String[] {"net", "odds", "arch", "holds", "moss", "toll", "person", "weight", "doubt", "love", "at", "plant", "joy", "over", "end", "a", ";", "<", ">", "=", "7"}) {
            c.decadesFault(x, "any;" + word, 2, 4);
        }
    }

    private static void decadesInPlaceOfOthers(Check c) {
        c.promise(11, "Likewise the DECADES: how many STEPS");
        LeapArches x = with(GROUND, "any;any;any;");
        c.decadesFault(x, "any;@", 1, 4);
        c.given(x, "the old ones stay", x.live(0), 3);
        c.given(x, "none at all", x.decades(0), 0);
        c.given(x, "they are in place of the old ones", x.live(0), 0);
        c.promise(53, "LIVED: how many STEPS were done (1; 6: no DECADES).");
        x.viaduct(0);
        c.refused(x, "another VIADUCT has none", x.live(0), 6);
    }

    private static void missedRuns(Check c) {
        c.promise(53, "What can't be is MISSED: DAYS beyond 9,999 (as a whole), a run (by any, too) of who is OVER");
        lives(c, GROUND, "run d;", 0, 1, 1, 0, 0, 0, 0);
        lives(c, GROUND, "run a;", 0, 1, 0, 0, 0, 7, 0);
        lives(c, GROUND, "run a;run a;", 0, 2, 1, 0, 0, 7, 0);
        lives(c, GROUND, "run abcdefgh;run abcdefgh;", 0, 2, 0, 0, 2, 8, 0);
        lives(c, "person a weight 3;", "run a;", 0, 1, 1, 0, 0, 0, 0);
        lives(c, "arch holds 1;person a weight 3;", "run a;run a;", 0, 2, 0, 0, 0, 0, 0);
    }

    private static void missedRopes(Check c) {
        c.promise(53, "a rope of one with himself, of two who are not AT as many, who are OVER");
        String ground = "net 0;arch holds 9 toll 5;arch holds 1;person a weight 3;person b weight 3;person d weight 3 at 1;person e weight 3 at 2;person f weight 3 at 2;";
        lives(c, ground, "rope a b;", 0, 1, 0, 0, 2, 5, 0);
        lives(c, ground, "rope a a;", 0, 1, 1, 0, 0, 0, 0);
        lives(c, ground, "rope e e;", 0, 1, 1, 0, 0, 0, 0);
        lives(c, ground, "rope a d;rope d a;", 0, 2, 2, 0, 0, 0, 0);
        lives(c, ground, "rope e f;", 0, 1, 1, 0, 0, 0, 0);
        lives(c, ground, "rope d e;", 0, 1, 1, 0, 0, 0, 0);
        lives(c, ground, "home e;home f;rope e f;", 0, 3, 0, 0, 2, 5, 0);
        lives(c, "person a weight 3;person b weight 3;", "rope a b;", 0, 1, 1, 0, 0, 0, 0);
    }

    private static void missedJumpsAndHomes(Check c) {
        c.promise(53, "a home (by any, too) of who has no ARCH behind him, a jump on one that HOLDS 60 and has no MOSS");
        lives(c, GROUND, "home a;", 0, 1, 1, 0, 0, 0, 0);
        lives(c, GROUND, "home d;home d;", 0, 2, 1, 0, 0, 0, 0);
        LeapArches x = lives(c, GROUND, "jump 3;", 0, 1, 1, 0, 0, 0, 0);
        c.due("it is not TROD", x.told(8), 0);
        x = lives(c, "arch holds 59;", "jump 0;jump 0;", 0, 2, 1, 0, 0, 0, 0);
        c.due("HOLDS", x.arch(0, 0), 60);
        lives(c, "arch holds 60 moss 1;", "jump 0;jump 0;day 1;jump 0;", 0, 4, 2, 1, 0, 0, 0);
        lives(c, "arch holds 60 moss 1;", "jump 0;jump 0;day 2;jump 0;", 0, 4, 1, 2, 0, 0, 0);
    }

    private static void missedFogs(Check c) {
        c.promise(53, "fog as it is");
        for (int fog = 0; fog <= 5; fog++) {
            LeapArches x = lives(c, "fog " + fog + ";", "fog " + fog + ";", 0, 1, 1, 0, 0, 0, 0);
            c.due("FOG", x.told(4), fog);
            int other = 5 - fog;
            x = lives(c, "fog " + fog + ";", "fog " + other + ";fog " + other + ";", 0, 2, 1, 0, 0, 0, 0);
            c.due("FOG", x.told(4), other);
        }
    }

    private static void missedDays(Check c) {
        c.promise(53, "DAYS beyond 9,999 (as a whole)");
        LeapArches x = Check.withViaduct("arch holds 5;");
        for (int i = 0; i < 100; i++) {
            x.day(99);
        }
        x.day(59);
        c.due("DAY", x.told(6), 9959);
        Check.decades(x, "jump 0;day 40;day 1;");
        c.given(x, "live(0)", x.live(0), 3);
        c.due("to 9,999 and no further", x.told(6), 9999);
        c.due("MISSED", x.lived(0), 1);
        c.due("DAYS", x.lived(1), 40);
        LeapArches y = Check.withViaduct("arch holds 5;");
        for (int i = 0; i < 100; i++) {
            y.day(99);
        }
        y.day(60);
        Check.decades(y, "jump 0;day 40;");
        c.given(y, "live(0)", y.live(0), 2);
        c.due("not one of the 40", y.told(6), 9960);
        c.due("MISSED", y.lived(0), 1);
        c.due("DAYS", y.lived(1), 0);
        c.due("TROD stays", y.told(8), 1);
        Check.decades(y, "day 39;");
        c.given(y, "live(0)", y.live(0), 1);
        c.due("to the last one", y.told(6), 9999);
        c.due("MISSED", y.lived(0), 0);
    }

    private static void missedAnys(Check c) {
        c.promise(53, "any without PEOPLE (no draws)");
        for (int seed : new int[] {0, 1, 9999}) {
            lives(c, "arch holds 5;", "any;any;any;", seed, 3, 3, 0, 0, 0, 0);
            lives(c, "", "any;", seed, 1, 1, 0, 0, 0, 0);
        }
        c.promise(53, "a PERSON by a draw by how many there are RUNS, if a draw by 16 is below ODDS, else is sent HOME (both first)");
        for (int seed = 0; seed < 50; seed++) {
            lives(c, "odds 16;arch holds 9;person a weight 3;", "any;", seed, 1, 0, 0, 0, 1, 0);
            lives(c, "odds 16;arch holds 9;person a weight 3 at 1;", "any;", seed, 1, 1, 0, 0, 0, 0);
            LeapArches home = lives(c, "odds 0;arch holds 9;person a weight 3 at 1;", "any;", seed, 1, 0, 0, 0, 0, 0);
            c.due("HOME", home.person(0, 3), 0);
            lives(c, "odds 0;arch holds 9;person a weight 3;", "any;", seed, 1, 1, 0, 0, 0, 0);
        }
    }

    /** Whether what stands within a when is done. */
    private static void when(Check c, String ground, String test, boolean holds) {
        lives(c, ground, "when " + test + ";stop;end;fog 5;", 0, 2, 0, 0, 0, 0, 0);
        LeapArches x = with(ground, "when " + test + ";fog 4;end;");
        c.given(x, "live(0) by " + test, x.live(0), holds ? 2 : 1);
        c.due("FOG by " + test, x.told(4), holds ? 4 : 0);
    }

    private static void testsAtTheirEnds(Check c) {
        c.promise(53, "TEST: over NAME, or at NAME COMPARES NUMBER, or moss NUMBER COMPARES NUMBER.");
        String nine = "arch holds 5;".repeat(9);
        for (int at : new int[] {0, 1, 8, 9}) {
            String ground = nine + "person b weight 3 at 5;person a weight 3 at " + at + ";";
            when(c, ground, "over a", at == 9);
            for (int v = 0; v <= 9; v++) {
                when(c, ground, "at a < " + v, at < v);
                when(c, ground, "at a > " + v, at > v);
                when(c, ground, "at a = " + v, at == v);
            }
        }
        when(c, "person a weight 3;", "over a", true);
        for (int moss : new int[] {0, 1, 9}) {
            String ground = "arch holds 5 moss 5;arch holds 5 moss " + moss + ";";
            for (int v = 0; v <= 9; v++) {
                when(c, ground, "moss 1 < " + v, moss < v);
                when(c, ground, "moss 1 > " + v, moss > v);
                when(c, ground, "moss 1 = " + v, moss == v);
            }
        }
    }

    private static void loopsOfOneAndNinetyNine(Check c) {
        c.promise(53, "loop n (1 to 99): as often.");
        for (int n : new int[] {1, 2, 98, 99}) {
            lives(c, "", "loop " + n + ";day 1;end;", 0, 1 + n, 0, n, 0, 0, 0);
            lives(c, "", "loop " + n + ";end;", 0, 1, 0, 0, 0, 0, 0);
        }
        lives(c, "", "loop 3;loop 4;loop 5;day 1;end;end;end;", 0, 1 + 3 + 12 + 60, 0, 60, 0, 0, 0);
        lives(c, "", "loop 2;day 1;loop 3;day 2;end;day 3;end;day 4;", 0, 1 + 2 + 2 + 6 + 2 + 1, 0, 2 + 12 + 6 + 4, 0, 0, 0);
        lives(c, "", "loop 99;loop 99;end;end;day 1;", 0, 101, 0, 1, 0, 0, 0);
    }

    private static void threeHundredSteps(Check c) {
        c.promise(53, "At most 300 STEPS");
        // 1 + 3 + 294 of them.
        String most = "loop 3;loop 98;day 1;end;end;";
        lives(c, "", most, 0, 298, 0, 294, 0, 0, 0);
        lives(c, "", most + "day 1;", 0, 299, 0, 295, 0, 0, 0);
        lives(c, "", most + "day 1;day 1;", 0, 300, 0, 296, 0, 0, 0);
        c.promise(54, "4: 1 if a STEP was left to be done, else 0");
        lives(c, "", most + "day 1;day 1;day 1;", 0, 300, 0, 296, 0, 0, 1);
        lives(c, "", most + "day 1;day 1;stop;", 0, 300, 0, 296, 0, 0, 1);
        lives(c, "", most + "day 1;day 1;loop 1;end;", 0, 300, 0, 296, 0, 0, 1);
        lives(c, "", most + "day 1;stop;day 1;", 0, 300, 0, 295, 0, 0, 0);
        lives(c, "", most + "loop 1;day 1;end;", 0, 300, 0, 295, 0, 0, 0);
        lives(c, "", most + "loop 2;day 1;end;", 0, 300, 0, 295, 0, 0, 1);
        lives(c, "", most + "day 1;loop 99;end;", 0, 300, 0, 295, 0, 0, 0);
        lives(c, "", most + "day 1;loop 1;day 1;end;", 0, 300, 0, 295, 0, 0, 1);
        lives(c, "fog 1;", most + "fog 1;fog 1;", 0, 300, 2, 294, 0, 0, 0);
        lives(c, "fog 1;", most + "fog 1;fog 1;fog 1;", 0, 300, 2, 294, 0, 0, 1);
    }

    private static void whatCountsAsAStep(Check c) {
        c.promise(53, "(when, loop count as one each time they are come to from ahead; end does not)");
        String over = "person a weight 3;";
        lives(c, over, "when over a;end;", 0, 1, 0, 0, 0, 0, 0);
        lives(c, over, "when over a;day 1;end;", 0, 2, 0, 1, 0, 0, 0);
        lives(c, over, "loop 5;when over a;day 1;end;end;", 0, 11, 0, 5, 0, 0, 0);
        lives(c, over, "loop 5;when at a > 0;day 1;loop 9;end;end;end;", 0, 6, 0, 0, 0, 0, 0);
        lives(c, over, "when at a > 0;loop 9;day 1;end;day 1;end;day 1;", 0, 2, 0, 1, 0, 0, 0);
        lives(c, over, "loop 4;loop 1;end;loop 2;end;end;", 0, 9, 0, 0, 0, 0, 0);
        lives(c, over, "loop 99;when over a;loop 2;end;end;end;", 0, 1 + 99 + 99, 0, 0, 0, 0, 0);
        lives(c, over, "loop 99;when over a;loop 2;day 1;end;end;end;", 0, 300, 0, 149, 0, 0, 1);
    }

    private static void stops(Check c) {
        c.promise(53, "or stop ;");
        lives(c, "", "stop;", 0, 1, 0, 0, 0, 0, 0);
        lives(c, "", "stop;day 1;", 0, 1, 0, 0, 0, 0, 0);
        lives(c, "", "loop 9;day 1;stop;end;day 1;", 0, 3, 0, 1, 0, 0, 0);
        lives(c, "person a weight 3;", "loop 9;loop 9;when over a;day 1;stop;end;end;end;", 0, 5, 0, 1, 0, 0, 0);
        lives(c, "person a weight 3;", "when at a > 0;stop;end;day 1;", 0, 2, 0, 1, 0, 0, 0);
    }

    /** As the document says it, with long numbers. */
    private static long next(long s) {
        return (s * 3217 + 11447) % 65536;
    }

    private static void drawsThatWrapAround(Check c) {
        c.promise(53, "s, at first the seed, becomes what is left of s times 3,217 and 11,447 by 65,536; the draw by n is the rest of s by 8, rounded down, by n");
        for (int people = 1; people <= 6; people++) {
            StringBuilder ground = new StringBuilder("odds 8;arch holds 9;");
            for (int i = 0; i < people; i++) {
                ground.append("person ").append((char) ('p' + i)).append(" weight 3;");
            }
            for (int seed : new int[] {0, 1, 2, 13, 4095, 8191, 9998, 9999}) {
                LeapArches x = with(ground.toString(), "loop 99;any;end;loop 99;any;end;loop 99;any;end;");
                int[] at = new int[people];
                int missed = 0;
                long s = seed;
                for (int i = 0; i < 297; i++) {
                    s = next(s);
                    int who = (int) (s / 8 % people);
                    s = next(s);
                    int to = s / 8 % 16 < 8 ? 1 : 0;
                    missed += at[who] == to ? 1 : 0;
                    at[who] = to;
                }
                c.given(x, "live(" + seed + ") of " + people, x.live(seed), 300);
                c.due("MISSED", x.lived(0), missed);
                for (int i = 0; i < people; i++) {
                    c.due("AT of " + i, x.person(i, 3), at[i]);
                }
            }
        }
    }

    private static void seedsAtTheEnds(Check c) {
        c.promise(53, "LIVED by a seed (0 to 9,999): all is as it is then.");
        LeapArches x = with(GROUND, "day 1;");
        c.given(x, "live(0)", x.live(0), 1);
        c.given(x, "live(9999)", x.live(9999), 1);
        c.refused(x, "live(10000)", x.live(10000), 1);
        c.refused(x, "live(-1)", x.live(-1), 1);
        c.due("all is as it is then", x.told(6), 2);
        c.promise(54, "(1; 6: there was none)");
        c.given(x, "DAYS of the latest that was", x.lived(1), 1);
    }

    private static void whatWasLived(Check c) {
        c.promise(54, "Of live() latest with STATUS 0, what 0: MISSED, 1: DAYS, 2: how often one FELL, 3: what was PAID");
        // Both fall at once, then each for himself; what was PAID and FELL ahead of it does not count.
        String ground = "net 0;arch holds 60 toll 4;arch holds 60 toll 5;arch holds 1;person a weight 3;person b weight 3;";
        LeapArches x = with(ground, "rope a b;run a;run b;day 3;day 4;home a;");
        x.run(0);
        x.day(9);
        c.given(x, "live(0)", x.live(0), 6);
        int[] want = {1, 7, 4, 27, 0};
        for (int what = 0; what < 5; what++) {
            c.given(x, "lived(" + what + ")", x.lived(what), want[what]);
        }
        c.due("PAID in all", x.told(9), 36);
        c.due("FELL in all", x.person(0, 5) + x.person(1, 5), 5);
        c.due("DAY", x.told(6), 16);
        c.refused(x, "lived(5)", x.lived(5), 1);
        c.refused(x, "lived(-1)", x.lived(-1), 1);
    }

    private static void livedByTheLatest(Check c) {
        c.promise(54, "Of live() latest with STATUS 0");
        LeapArches x = with(GROUND, "day 3;");
        c.refused(x, "there was none", x.lived(1), 6);
        x.live(10000);
        x.mean(0, 20);
        c.refused(x, "there was none with STATUS 0", x.lived(1), 6);
        x.live(0);
        x.mark();
        Check.decades(x, "day 5;");
        c.given(x, "of other DECADES by now", x.lived(1), 3);
        x.live(0);
        c.given(x, "the latest", x.lived(1), 5);
        x.live(-1);
        c.given(x, "behind one that was refused", x.lived(1), 5);
        x.mean(0, 3);
        c.given(x, "behind a mean", x.lived(1), 5);
        x.undo();
        c.given(x, "behind undo()", x.lived(1), 5);
        x.viaduct(0);
        c.given(x, "on another VIADUCT", x.lived(1), 5);
        x.live(0);
        c.given(x, "behind one without DECADES", x.lived(1), 5);
        x.decades(0);
        c.given(x, "no STEP", x.live(0), 0);
        c.given(x, "no DAY", x.lived(1), 0);
        Check.decades(x, "loop 99;end;loop 4;loop 99;fog 0;end;end;");
        x.live(0);
        c.given(x, "MISSED", x.lived(0), 295);
        c.given(x, "a STEP was left", x.lived(4), 1);
        Check.decades(x, "day 1;");
        x.live(0);
        c.given(x, "none was MISSED", x.lived(0), 0);
        c.given(x, "none was left", x.lived(4), 0);
    }

    private static void meansOfOneAndOfTwenty(Check c) {
        c.promise(55, "The FRACTION is the mean of how many ARCHES are behind all PEOPLE together behind the DECADES, by so many seeds (1 to 20) from one on");
        LeapArches x = with("odds 8;arch holds 9;arch holds 9;arch holds 9;person a weight 3;person b weight 3 at 1;", "any;");
        int[] seeds = {0, 1, 9979, 9980, 9999};
        for (int seed : seeds) {
            for (int many : new int[] {1, 2, 19, 20}) {
                if (seed + many - 1 > 9999) {
                    c.refused(x, "mean(" + seed + ", " + many + ")", x.mean(seed, many), 1);
                    continue;
                }
                long sum = 0;
                for (int i = seed; i < seed + many; i++) {
                    long s = next(i);
                    int who = (int) (s / 8 % 2);
                    boolean runs = next(s) / 8 % 16 < 8;
                    sum += who == 0 ? (runs ? 4 : 1) : (runs ? 3 : 0);
                }
                long divisor = java.math.BigInteger.valueOf(sum).gcd(java.math.BigInteger.valueOf(many)).longValue();
                c.fraction(x, "mean(" + seed + ", " + many + ")", x.mean(seed, many), sum / divisor, many / divisor);
            }
        }
        LeapArches most = with("arch holds 9;".repeat(9) + "person a weight 1 at 9;person b weight 1 at 9;person d weight 1 at 9;person e weight 1 at 9;person f weight 1 at 9;person g weight 1 at 9;", "");
        c.fraction(most, "the most", most.mean(0, 20), 54, 1);
        LeapArches none = with("", "any;");
        c.fraction(none, "the least", none.mean(9980, 20), 0, 1);
    }

    private static void meansLeaveAllAsItIs(Check c) {
        c.promise(55, "all stays as it is");
        LeapArches x = States.rich();
        LeapArches y = States.rich();
        x.hope(0, 0);
        y.hope(0, 0);
        for (int i = 0; i < 20; i++) {
            c.due("mean", x.mean(500 * i, 20), true);
        }
        x.hope(0, 0);
        c.due("all but the FRACTION", Whole.seen(x).equals(Whole.seen(y)), true);
        c.due("and the DECADES", Whole.lives(x).equals(Whole.lives(y)), true);
    }
}
