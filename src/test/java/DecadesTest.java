/** Promises 11, 53 to 55: decades(), live(), lived(), mean(). */
public final class DecadesTest {
    private static final String GROUND = "net 1;odds 8;arch holds 9 toll 2;arch holds 9 moss 1 toll 3;arch holds 9 moss 3;arch holds 60;"
        + "person a weight 8 doubt 0;person bb weight 7;person d weight 30;";

    public static void main(String[] args) {
        Check c = new Check("DecadesTest");
        texts(c);
        faultsOfTokensAndPlace(c);
        faultsOfNamesAndNumbers(c);
        faultsOfTooMany(c);
        whenDecadesStayAndGo(c);
        plainSteps(c);
        missedSteps(c);
        missedDays(c);
        tests(c);
        loopsAndStops(c);
        atMostSoManySteps(c);
        draws(c);
        drawsAreMadeFirst(c);
        livedIsOfTheLatest(c);
        means(c);
        wrongCalls(c);
        c.end();
    }

    private static LeapArches ground() {
        return Check.withViaduct(GROUND);
    }

    /** Lives a text on fresh ground: STEPS done, then what lived() tells. */
    private static LeapArches lives(Check c, String ground, String text, int seed, int... want) {
        LeapArches x = Check.withViaduct(ground);
        Check.decades(x, text);
        c.due("fault(0) of " + text, x.fault(0), 0);
        c.due("live(" + seed + ") of " + text, x.live(seed), want[0]);
        c.due("status()", x.status(), 0);
        for (int what = 0; what + 1 < want.length; what++) {
            c.due("lived(" + what + ") of " + text, x.lived(what), want[what + 1]);
        }
        return x;
    }

    private static void texts(Check c) {
        LeapArches x = ground();
        c.due("an empty text", x.decades(0), 0);
        c.due("all kinds", Check.decades(x, "run a;rope a bb;jump 3;home d;day 40;fog 5;any;\nwhen over a;stop;end;when at bb<9;end;"
            + "when moss 0 > 0;end; when moss 3=9;loop 99;any;end;end;"), 14);
        c.due("status()", x.status(), 0);
        c.due("fault(0)", x.fault(0), 0);
        c.due("fault(1)", x.fault(1), -1);
        String long300 = "any;".repeat(30) + " ".repeat(180);
        c.due("300 bytes, 30 STEPS", Check.decades(x, long300), 30);
        Check.feed(x, long300 + " ");
        c.refused(x, "301 bytes", x.decades(301), 1);
        c.due("the tape stays", x.decades(300), 30);
        c.refused(x, "decades(1), the tape is empty", x.decades(1), 1);
        c.refused(x, "decades(-1)", x.decades(-1), 1);
        c.due("depth three", Check.decades(x, "loop 1;loop 1;loop 1;any;end;end;end;loop 1;end;"), 5);
    }

    private static void faultsOfTokensAndPlace(Check c) {
        LeapArches x = ground();
        c.decadesFault(x, "run a;!", 1, 6);
        c.decadesFault(x, "jump 00001;", 1, 5);
        c.decadesFault(x, "net 3;", 2, 0);
        c.decadesFault(x, "arch holds 3;", 2, 0);
        c.decadesFault(x, "a;", 2, 0);
        c.decadesFault(x, "3;", 2, 0);
        c.decadesFault(x, ";", 2, 0);
        c.decadesFault(x, "over a;", 2, 0);
        c.decadesFault(x, "run", 2, 3);
        c.decadesFault(x, "run ;", 2, 4);
        c.decadesFault(x, "run 3;", 2, 4);
        c.decadesFault(x, "run day;", 2, 4);
        c.decadesFault(x, "run abcdefghi;", 2, 4);
        c.decadesFault(x, "run a bb;", 2, 6);
        c.decadesFault(x, "run a", 2, 5);
        c.decadesFault(x, "rope a;", 2, 6);
        c.decadesFault(x, "rope a bb d;", 2, 10);
        c.decadesFault(x, "jump a;", 2, 5);
        c.decadesFault(x, "any a;", 2, 4);
        c.decadesFault(x, "stop 1;", 2, 5);
        c.decadesFault(x, "when a;", 2, 5);
        c.decadesFault(x, "when over;", 2, 9);
        c.decadesFault(x, "when over a = 1;", 2, 12);
        c.decadesFault(x, "when at a 3;", 2, 10);
        c.decadesFault(x, "when at a;", 2, 9);
        c.decadesFault(x, "when at a < a;", 2, 12);
        c.decadesFault(x, "when at a <= 3;", 2, 11);
        c.decadesFault(x, "when moss a < 3;", 2, 10);
        c.decadesFault(x, "when moss 0 3;", 2, 12);
        c.decadesFault(x, "end;", 2, 0);
        c.decadesFault(x, "any;end;", 2, 4);
        c.decadesFault(x, "loop 2;any;end;end;", 2, 15);
        c.decadesFault(x, "loop 2;any;", 2, 11);
        c.decadesFault(x, "loop 2;when over a;end; ", 2, 24);
        c.decadesFault(x, "loop 2;any;end", 2, 14);
        c.decadesFault(x, "loop 2;any;end any;", 2, 15);
        c.decadesFault(x, "loop a;", 2, 5);
    }

    private static void faultsOfNamesAndNumbers(Check c) {
        LeapArches x = ground();
        c.decadesFault(x, "run b;", 3, 4);
        c.decadesFault(x, "home aa;", 3, 5);
        c.decadesFault(x, "rope a e;", 3, 7);
        c.decadesFault(x, "rope e a;", 3, 5);
        c.decadesFault(x, "when over abcdefgh;", 3, 10);
        c.decadesFault(x, "when at z", 3, 8);
        c.decadesFault(x, "jump 4;", 4, 5);
        c.decadesFault(x, "when moss 4 < 3;", 4, 10);
        c.decadesFault(x, "when moss 3 < 10;", 4, 14);
        c.decadesFault(x, "when at a > 10;", 4, 12);
        c.decadesFault(x, "day 0;", 4, 4);
        c.decadesFault(x, "day 41;", 4, 4);
        c.decadesFault(x, "fog 6;", 4, 4);
        c.decadesFault(x, "loop 0;", 4, 5);
        c.decadesFault(x, "loop 100;", 4, 5);
        LeapArches none = new LeapArches();
        c.decadesFault(none, "jump 0;", 4, 5);
        c.decadesFault(none, "run a;", 3, 4);
        none.build(3, 1);
        c.due("an ARCH that was built", Check.decades(none, "jump 0;"), 1);
    }

    private static void faultsOfTooMany(Check c) {
        LeapArches x = ground();
        String thirty = "any;".repeat(30);
        c.decadesFault(x, thirty + "any;", 6, 120);
        c.decadesFault(x, thirty + "foo;", 2, 120);
        c.decadesFault(x, thirty + "end;", 2, 120);
        c.due("ends are no STEPS", Check.decades(x, "loop 1;any;end;".repeat(15)), 30);
        c.decadesFault(x, "loop 1;any;end;".repeat(15) + " loop", 6, 226);
        c.decadesFault(x, "loop 1;when over a;loop 1;when over a;", 7, 26);
        c.decadesFault(x, "loop 1;when over a;loop 1;loop", 7, 26);
        c.decadesFault(x, "loop 1;loop 1;loop 1;" + "any;".repeat(27) + "loop", 6, 129);
        c.decadesFault(x, "loop 1;loop 1;loop 1;" + "any;".repeat(26) + "loop", 7, 125);
        c.due("an end gives way", Check.decades(x, "loop 1;loop 1;loop 1;end;loop 1;end;end;end;"), 4);
    }

    private static void whenDecadesStayAndGo(Check c) {
        LeapArches x = ground();
        Check.decades(x, "any;any;");
        c.decadesFault(x, "any;any;any;!", 1, 12);
        c.due("the old ones stay", x.live(0), 2);
        Check.decades(x, "any;any;any;");
        c.due("the new ones are in place of them", x.live(0), 3);
        x.viaduct(0);
        c.refused(x, "live(0) on another VIADUCT", x.live(0), 6);
        c.due("an empty text", x.decades(0), 0);
        c.due("live(0) without a STEP", x.live(0), 0);
        c.due("status()", x.status(), 0);
        c.fraction(x, "mean(0, 3)", x.mean(0, 3), 0, 1);
    }

    private static void plainSteps(Check c) {
        // a: 8 everywhere, without DOUBT.
        LeapArches x = lives(c, GROUND, "run a;", 0, 1, 0, 0, 0, 7, 0);
        c.due("AT", x.person(0, 3), 4);
        c.due("PAID", x.person(0, 4), 7);
        c.due("TROD", x.told(8), 15);
        // bb: 7, 8, 10 > 9: stopped at 2, falls to 1.
        x = lives(c, GROUND, "run bb;home bb;", 0, 2, 0, 0, 1, 5, 0);
        c.due("AT", x.person(1, 3), 0);
        c.due("FELL", x.person(1, 5), 1);
        // Both: 8 + 3 = 11 > 9.
        x = lives(c, GROUND, "rope a bb;jump 0;jump 0;rope bb a;", 0, 4, 0, 0, 0, 2, 0);
        c.due("AT", x.person(0, 3) * 10 + x.person(1, 3), 11);
        c.due("PAID by the first", x.person(1, 4), 2);
        x = lives(c, GROUND, "jump 2;day 2;fog 3;", 0, 3, 0, 2, 0, 0, 0);
        c.due("FOG", x.told(4), 3);
        c.due("DAY", x.told(6), 2);
        c.due("MOSS of 2: 3 - 1 - 1 + 1", x.arch(2, 1), 2);
        c.due("HOLDS", x.arch(2, 0), 10);
        c.due("MOSS of 3", x.arch(3, 1), 2);
    }

    private static void missedSteps(Check c) {
        LeapArches x = lives(c, GROUND, "run a;run a;home bb;fog 0;rope a a;rope a bb;jump 3;jump 3;", 0, 8, 7, 0, 0, 7, 0);
        c.due("AT", x.person(0, 3), 4);
        c.due("HOLDS", x.arch(3, 0), 60);
        lives(c, "person a weight 3;person b weight 3;", "run a;rope a b;home a;", 0, 3, 3, 0, 0, 0, 0);
        lives(c, "arch holds 3;", "any;any;", 5, 2, 2, 0, 0, 0, 0);
        lives(c, "arch holds 60 moss 1;", "jump 0;jump 0;", 5, 2, 1, 0, 0, 0, 0);
    }

    private static void missedDays(Check c) {
        LeapArches x = Check.withViaduct("arch holds 5;");
        Check.decades(x, "loop 99;day 40;end;");
        x.live(0);
        x.live(0);
        c.due("DAY", x.told(6), 7920);
        Check.decades(x, "loop 51;day 40;end;day 39;jump 0;day 1;day 1;");
        c.due("live(0)", x.live(0), 56);
        c.due("DAY", x.told(6), 9999);
        c.due("MISSED", x.lived(0), 2);
        c.due("DAYS", x.lived(1), 2079);
        Check.decades(x, "jump 0;day 1;");
        x.live(0);
        c.due("MISSED", x.lived(0), 1);
        c.due("DAYS", x.lived(1), 0);
        c.due("TROD stays", x.told(8), 1);
    }

    private static void tests(Check c) {
        String ground = "net 9;arch holds 9 moss 4;arch holds 1;person a weight 3 doubt 0;person b weight 3 at 2;";
        String[] holding = {"over b", "at b=2", "at b>1", "at b<3", "at a=0", "moss 0=4", "moss 0<5", "moss 0>3", "moss 1=0"};
        String[] failing = {"over a", "at b=1", "at b>2", "at b<2", "at a>0", "moss 0=5", "moss 0<4", "moss 0>4", "moss 1>0"};
        for (String test : holding) {
            LeapArches x = lives(c, ground, "when " + test + ";run a;end;fog 1;", 0, 3, 0, 0, 0, 1, 0);
            c.due("AT", x.person(0, 3), 1);
        }
        for (String test : failing) {
            LeapArches x = lives(c, ground, "when " + test + ";run a;end;fog 1;", 0, 2, 0, 0, 0, 0, 0);
            c.due("AT", x.person(0, 3), 0);
        }
        lives(c, ground, "when over b;when over a;run a;end;fog 1;when at b=2;fog 2;end;end;fog 3;", 0, 6, 0, 0, 0, 0, 0);
        lives(c, ground, "when over a;when over b;end;loop 3;any;end;end;", 0, 1, 0, 0, 0, 0, 0);
    }

    private static void loopsAndStops(Check c) {
        LeapArches x = lives(c, "arch holds 5 moss 9;", "loop 3;jump 0;end;", 0, 4, 0, 0, 0, 0, 0);
        c.due("HOLDS", x.arch(0, 0), 8);
        x = lives(c, "arch holds 5 moss 9;", "loop 2;loop 3;jump 0;end;day 1;end;", 0, 11, 0, 2, 0, 0, 0);
        c.due("HOLDS", x.arch(0, 0), 11);
        x = lives(c, "arch holds 5 moss 9;", "loop 1;jump 0;end;loop 99;end;jump 0;", 0, 4, 0, 0, 0, 0, 0);
        c.due("HOLDS", x.arch(0, 0), 7);
        x = lives(c, "arch holds 5 moss 9;", "jump 0;stop;jump 0;", 0, 2, 0, 0, 0, 0, 0);
        c.due("HOLDS", x.arch(0, 0), 6);
        x = lives(c, "arch holds 5 moss 9;", "loop 9;jump 0;when moss 0 < 7;stop;end;end;jump 0;", 0, 8, 0, 0, 0, 0, 0);
        c.due("HOLDS", x.arch(0, 0), 8);
        lives(c, "", "stop;stop;", 0, 1, 0, 0, 0, 0, 0);
    }

    private static void atMostSoManySteps(Check c) {
        lives(c, "arch holds 5;", "loop 3;loop 98;day 1;end;end;", 0, 298, 0, 294, 0, 0, 0);
        lives(c, "arch holds 5;", "loop 3;loop 98;day 1;end;end;day 1;day 1;", 0, 300, 0, 296, 0, 0, 0);
        lives(c, "arch holds 5;", "loop 3;loop 98;day 1;end;end;day 1;loop 9;end;", 0, 300, 0, 295, 0, 0, 0);
        lives(c, "arch holds 5;", "loop 3;loop 98;day 1;end;end;day 1;loop 9;stop;end;", 0, 300, 0, 295, 0, 0, 1);
        lives(c, "arch holds 5;", "loop 3;loop 98;day 1;end;end;day 1;stop;day 1;", 0, 300, 0, 295, 0, 0, 0);
        lives(c, "arch holds 5;", "loop 3;loop 98;day 1;end;end;day 1;day 1;day 1;", 0, 300, 0, 296, 0, 0, 1);
        lives(c, "arch holds 5;", "loop 3;loop 98;day 1;end;end;day 1;day 1;stop;", 0, 300, 0, 296, 0, 0, 1);
        lives(c, "arch holds 5;", "loop 3;loop 99;day 1;end;end;", 0, 300, 0, 296, 0, 0, 1);
        lives(c, "arch holds 5;", "loop 99;loop 99;loop 99;end;end;end;", 0, 300, 0, 0, 0, 0, 1);
        lives(c, "arch holds 5;", "loop 99;loop 99;loop 99;day 1;end;end;end;", 0, 300, 0, 295, 0, 0, 1);
        lives(c, "arch holds 5;", "loop 99;loop 2;end;end;", 0, 100, 0, 0, 0, 0, 0);
    }

    private static void draws(Check c) {
        // s of 1: 14664, 65007, 15078; by 8: 1833, 8125, 1884.  By 3: 0; by 16: 13 of 8: home, MISSED.
        LeapArches x = lives(c, GROUND, "any;", 1, 1, 1, 0, 0, 0, 0);
        // s of 0: 11447; 1430: by 3: 2. s: 11447 * 3217 + 11447 = 36836446, by 65536: 5214; 651 by 16: 11: home.
        x = lives(c, GROUND, "any;", 0, 1, 1, 0, 0, 0, 0);
        for (int seed = 0; seed < 60; seed++) {
            int s = (seed * 3217 + 11447) % 65536;
            int who = s / 8 % 3;
            s = (int) ((s * 3217L + 11447) % 65536);
            boolean runs = s / 8 % 16 < 8;
            // d is not borne by ARCH 0: he runs, and gets nowhere.
            int paid = runs ? new int[] {7, 5, 0}[who] : 0;
            x = lives(c, GROUND, "any;", seed, 1, runs ? 0 : 1, 0, runs && who == 1 ? 1 : 0, paid, 0);
            c.due("PAID by him, seed " + seed, x.person(who, 4), paid);
        }
        x = Check.withViaduct("odds 0;arch holds 9;person a weight 3 at 1;");
        Check.decades(x, "any;");
        x.live(77);
        c.due("by ODDS 0 all are sent HOME", x.person(0, 3), 0);
        x.rule(5, 16);
        x.live(77);
        c.due("by ODDS 16 all RUN", x.person(0, 3), 1);
        x.live(77);
        c.due("MISSED by who is OVER", x.lived(0), 1);
    }

    private static void drawsAreMadeFirst(Check c) {
        // Each any takes two draws, whatever becomes of it.
        for (int seed = 0; seed < 40; seed++) {
            LeapArches x = Check.withViaduct("odds 8;arch holds 9;person a weight 3;person b weight 3;");
            Check.decades(x, "loop 9;any;end;");
            int[] at = {0, 0};
            int missed = 0;
            int s = seed;
            for (int i = 0; i < 9; i++) {
                s = (int) ((s * 3217L + 11447) % 65536);
                int who = s / 8 % 2;
                s = (int) ((s * 3217L + 11447) % 65536);
                int to = s / 8 % 16 < 8 ? 1 : 0;
                missed += at[who] == to ? 1 : 0;
                at[who] = to;
            }
            c.due("live(" + seed + ")", x.live(seed), 10);
            c.due("MISSED", x.lived(0), missed);
            c.due("AT", x.person(0, 3) * 10 + x.person(1, 3), at[0] * 10 + at[1]);
        }
    }

    private static void livedIsOfTheLatest(Check c) {
        LeapArches x = ground();
        c.refused(x, "lived(0)", x.lived(0), 6);
        c.refused(x, "lived(5), no number first", x.lived(5), 1);
        Check.decades(x, "run a;run a;day 3;");
        x.mean(0, 2);
        c.refused(x, "lived(0) behind mean() alone", x.lived(0), 6);
        x.live(0);
        c.due("lived(3)", x.lived(3), 7);
        x.live(0);
        c.due("lived(3), of this one alone", x.lived(3), 0);
        c.due("lived(0)", x.lived(0), 2);
        x.mean(0, 2);
        x.live(-1);
        x.viaduct(0);
        x.live(0);
        c.due("lived(0) behind what is refused", x.lived(0), 2);
        c.due("lived(1)", x.lived(1), 3);
        c.refused(x, "lived(5)", x.lived(5), 1);
        c.refused(x, "lived(-1)", x.lived(-1), 1);
    }

    private static void means(Check c) {
        LeapArches x = Check.withViaduct("odds 8;arch holds 9;arch holds 9;arch holds 9;person a weight 3;person b weight 3 at 1;");
        Check.decades(x, "any;day 1;");
        // As draws() reckons: who, and whether he runs (a: 3 + 1, b: 3 + 1 or 0 + 0).
        int[][] some = {{0, 1}, {0, 20}, {9999, 1}, {9980, 20}, {17, 6}};
        for (int[] call : some) {
            long sum = 0;
            for (int seed = call[0]; seed < call[0] + call[1]; seed++) {
                int s = (int) ((seed * 3217L + 11447) % 65536);
                int who = s / 8 % 2;
                s = (int) ((s * 3217L + 11447) % 65536);
                boolean runs = s / 8 % 16 < 8;
                sum += who == 0 ? (runs ? 4 : 1) : (runs ? 3 : 0);
            }
            long divisor = call[1];
            while (sum % divisor != 0 || call[1] % divisor != 0) {
                divisor--;
            }
            c.fraction(x, "mean(" + call[0] + ", " + call[1] + ")", x.mean(call[0], call[1]), sum / divisor, call[1] / divisor);
        }
        c.due("all stays: AT", x.person(0, 3) * 10 + x.person(1, 3), 1);
        c.due("all stays: DAY", x.told(6), 0);
        c.due("all stays: TROD, PAID", x.told(8) + x.told(9), 0);
        Check.decades(x, "run a;");
        c.fraction(x, "mean(5, 20)", x.mean(5, 20), 4, 1);
    }

    private static void wrongCalls(Check c) {
        LeapArches x = ground();
        c.refused(x, "live(-1), no number first", x.live(-1), 1);
        c.refused(x, "live(10000)", x.live(10000), 1);
        c.refused(x, "live(9999)", x.live(9999), 6);
        c.refused(x, "mean(-1, 1)", x.mean(-1, 1), 1);
        c.refused(x, "mean(0, 0)", x.mean(0, 0), 1);
        c.refused(x, "mean(0, 21)", x.mean(0, 21), 1);
        c.refused(x, "mean(9981, 20)", x.mean(9981, 20), 1);
        c.refused(x, "mean(10000, 1)", x.mean(10000, 1), 1);
        c.refused(x, "mean(MAX, 20)", x.mean(Integer.MAX_VALUE, 20), 1);
        c.refused(x, "mean(9980, 20)", x.mean(9980, 20), 6);
        Check.decades(x, "run a;");
        c.due("live(9999)", x.live(9999), 1);
        c.refused(x, "live(10000)", x.live(10000), 1);
    }
}
