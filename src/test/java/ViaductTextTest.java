/** Promises 9, 10, 12 to 16: feed(), viaduct(), fault(), told(), arch(), person(), plant(). */
public final class ViaductTextTest {
    private static final String WHOLE = "net 1; fog 2;odds 9;\narch holds 10; arch holds 12 moss 2 toll 3;arch holds 60 toll 0;"
        + "person ann weight 12 doubt 0; person bo weight 5 love 9 at 3; person c weight 40 doubt 9 love 1 at 1;"
        + "plant 30 joy 99;plant 1 joy 0;";

    public static void main(String[] args) {
        Check c = new Check("ViaductTextTest");
        theTape(c);
        aWholeViaduct(c);
        whatIsNotToldIsUsual(c);
        whatThereIsNot(c);
        blanksAndTokens(c);
        faultsOfTokens(c);
        faultsOfPlace(c);
        faultsOfNames(c);
        faultsOfNumbers(c);
        faultsOfTooMany(c);
        aFaultLeavesTheOldOne(c);
        aNewOneIsInPlaceOfTheOld(c);
        c.end();
    }

    private static void theTape(Check c) {
        LeapArches x = new LeapArches();
        for (int i = 1; i <= 45; i++) {
            c.due("feed", x.feed(0x20202020, 0x0a0a0a0a, 0x20202020, 0x20202020, 0x20202020), 20 * i);
        }
        c.due("feed beyond 900", x.feed(0, 0, 0, 0, 0), -1);
        c.refused(x, "viaduct(901)", x.viaduct(901), 1);
        c.refused(x, "viaduct(-1)", x.viaduct(-1), 1);
        c.refused(x, "decades(301)", x.decades(301), 1);
        c.due("fault(0), no text was read", x.fault(0), -1);
        c.due("viaduct(900) of blanks", x.viaduct(900), 0);
        c.due("fault(0)", x.fault(0), 0);
        c.refused(x, "viaduct(1), the tape is empty", x.viaduct(1), 1);
        c.due("feed", x.feed(0x6e657420, 0x373bffff, -1, -1, -1), 20);
        c.due("viaduct(6), the first bytes alone", x.viaduct(6), 0);
        c.due("told(3)", x.told(3), 7);
        c.due("the rest is gone", x.feed(0x40000000, 0, 0, 0, 0), 20);
        c.refused(x, "viaduct(1)", x.viaduct(1), 9);
        c.due("the tape is empty behind a FAULT, too", x.feed(0, 0, 0, 0, 0), 20);
    }

    private static void aWholeViaduct(Check c) {
        LeapArches x = new LeapArches();
        c.due("viaduct", Check.viaduct(x, WHOLE), 3);
        c.due("status()", x.status(), 0);
        c.due("fault(0)", x.fault(0), 0);
        c.due("fault(1)", x.fault(1), -1);
        c.due("fault(2)", x.fault(2), -1);
        c.due("fault(-1)", x.fault(-1), -1);
        int[] told = {3, 3, 2, 1, 2, 9, 0, 2, 0, 0};
        for (int what = 0; what < 10; what++) {
            c.due("told(" + what + ")", x.told(what), told[what]);
        }
        // STRAIN of ann 12; of bo 5 - 9 + (moss + 2) = -2, 0, -2; of c 39 + 9 (moss + 2) = 57, 75, 57.
        int[][] arches = {{10, 0, 1, 2}, {12, 2, 3, 3}, {60, 0, 0, 7}};
        int[][] people = {{12, 0, 0, 0, 0, 0}, {5, 1, 9, 3, 0, 0}, {40, 9, 1, 1, 0, 0}};
        int[][] plants = {{30, 99}, {1, 0}};
        for (int i = 0; i < 3; i++) {
            for (int what = 0; what < 4; what++) {
                c.due("arch(" + i + ", " + what + ")", x.arch(i, what), arches[i][what]);
            }
            for (int what = 0; what < 6; what++) {
                c.due("person(" + i + ", " + what + ")", x.person(i, what), people[i][what]);
            }
        }
        for (int i = 0; i < 2; i++) {
            for (int what = 0; what < 2; what++) {
                c.due("plant(" + i + ", " + what + ")", x.plant(i, what), plants[i][what]);
            }
        }
    }

    private static void whatIsNotToldIsUsual(Check c) {
        LeapArches x = Check.withViaduct("person a weight 7;arch holds 0;");
        c.due("NET", x.told(3), 3);
        c.due("FOG", x.told(4), 0);
        c.due("ODDS", x.told(5), 2);
        c.due("MOSS", x.arch(0, 1), 0);
        c.due("TOLL", x.arch(0, 2), 1);
        c.due("DOUBT", x.person(0, 1), 1);
        c.due("LOVE", x.person(0, 2), 0);
        c.due("AT", x.person(0, 3), 0);
    }

    private static void whatThereIsNot(Check c) {
        LeapArches x = Check.withViaduct(WHOLE);
        c.refused(x, "told(10)", x.told(10), 1);
        c.refused(x, "told(-1)", x.told(-1), 1);
        c.refused(x, "arch(3, 0)", x.arch(3, 0), 1);
        c.refused(x, "arch(-1, 0)", x.arch(-1, 0), 1);
        c.refused(x, "arch(0, 4)", x.arch(0, 4), 1);
        c.refused(x, "arch(0, -1)", x.arch(0, -1), 1);
        c.refused(x, "person(3, 0)", x.person(3, 0), 1);
        c.refused(x, "person(-1, 0)", x.person(-1, 0), 1);
        c.refused(x, "person(0, 6)", x.person(0, 6), 1);
        c.refused(x, "person(0, -1)", x.person(0, -1), 1);
        c.refused(x, "plant(2, 0)", x.plant(2, 0), 1);
        c.refused(x, "plant(-1, 0)", x.plant(-1, 0), 1);
        c.refused(x, "plant(0, 2)", x.plant(0, 2), 1);
        c.refused(x, "plant(0, -1)", x.plant(0, -1), 1);
        c.due("status() behind one that is", x.plant(0, 0) + x.status(), 30);
    }

    private static void blanksAndTokens(Check c) {
        LeapArches x = new LeapArches();
        c.due("no blanks where TOKENS part by themselves", Check.viaduct(x, "net5;arch holds3moss0004;person abcdefgh weight0040 at1;"), 1);
        c.due("NET", x.told(3), 5);
        c.due("MOSS", x.arch(0, 1), 4);
        c.due("WEIGHT", x.person(0, 0), 40);
        c.due("blanks everywhere", Check.viaduct(x, " \n\n net \n 5 \n ; \n"), 0);
        c.due("an empty text", x.viaduct(0), 0);
        c.due("NET", x.told(3), 3);
    }

    private static void faultsOfTokens(Check c) {
        LeapArches x = new LeapArches();
        c.viaductFault(x, "@", 1, 0);
        c.viaductFault(x, "net 5;\t", 1, 6);
        c.viaductFault(x, "net 5;\r", 1, 6);
        c.viaductFault(x, "Net 5;", 1, 0);
        c.viaductFault(x, "net -5;", 1, 4);
        c.viaductFault(x, "net 00005;", 1, 4);
        c.viaductFault(x, "12345", 1, 0);
        c.viaductFault(x, "arch holds 12345", 1, 11);
        c.viaductFault(x, "net 5\u00e9", 1, 5);
        c.viaductFault(x, "net 5;\u0000", 1, 6);
        c.viaductFault(x, "person a_b weight 3;", 1, 8);
    }

    private static void faultsOfPlace(Check c) {
        LeapArches x = new LeapArches();
        c.viaductFault(x, ";", 2, 0);
        c.viaductFault(x, "7", 2, 0);
        c.viaductFault(x, "bridge", 2, 0);
        c.viaductFault(x, "holds", 2, 0);
        c.viaductFault(x, "run a;", 2, 0);
        c.viaductFault(x, "abcdefghijk", 2, 0);
        c.viaductFault(x, "net", 2, 3);
        c.viaductFault(x, "net ", 2, 4);
        c.viaductFault(x, "net;", 2, 3);
        c.viaductFault(x, "net 5", 2, 5);
        c.viaductFault(x, "net 5 fog", 2, 6);
        c.viaductFault(x, "net 5 = 4;", 2, 6);
        c.viaductFault(x, "arch moss 3;", 2, 5);
        c.viaductFault(x, "arch holds moss;", 2, 11);
        c.viaductFault(x, "arch holds 3 toll 1 moss 1;", 2, 20);
        c.viaductFault(x, "arch holds 3 moss 1 moss 1;", 2, 20);
        c.viaductFault(x, "arch holds 3 moss;", 2, 17);
        c.viaductFault(x, "arch holds 3 joy;", 2, 13);
        c.viaductFault(x, "person a doubt 3;", 2, 9);
        c.viaductFault(x, "person a weight;", 2, 15);
        c.viaductFault(x, "person a weight 3 love 1 doubt 1;", 2, 25);
        c.viaductFault(x, "person a weight 3 at 0 love 1;", 2, 23);
        c.viaductFault(x, "person a weight 3 at 0 at 0;", 2, 23);
        c.viaductFault(x, "person a weight 3 doubt 1 love 1 at 0 at", 2, 38);
        c.viaductFault(x, "person a b weight 3;", 2, 9);
        c.viaductFault(x, "plant joy 3;", 2, 6);
        c.viaductFault(x, "plant 3 3;", 2, 8);
        c.viaductFault(x, "plant 3 joy 3 moss 1;", 2, 14);
        c.viaductFault(x, "net 3; ;", 2, 7);
    }

    private static void faultsOfNames(Check c) {
        LeapArches x = new LeapArches();
        String[] words = {"net", "fog", "odds", "arch", "holds", "moss", "toll", "person", "weight", "doubt", "love", "at", "plant",
            "joy", "run", "rope", "jump", "home", "day", "any", "when", "over", "loop", "end", "stop"};
        for (String word : words) {
            x = new LeapArches();
            c.viaductFault(x, "person " + word + " weight 3;", 2, 7);
            c.due("a longer WORD is a NAME", Check.viaduct(x, "person " + word + "x weight 3;"), 1);
            c.due("a shorter one, too", Check.viaduct(x, "person " + word.substring(1) + "x weight 3;"), 1);
        }
        c.viaductFault(x, "person abcdefghi weight 3;", 2, 7);
        c.viaductFault(x, "person 3 weight 3;", 2, 7);
        c.viaductFault(x, "person ; weight 3;", 2, 7);
        c.viaductFault(x, "person", 2, 6);
        c.viaductFault(x, "person ab weight 3;person abc weight 3;person ab weight 3;", 3, 46);
        c.viaductFault(x, "person ab weight 3;person ab", 3, 26);
        c.due("NAMES alike but for a letter", Check.viaduct(x, "person abcdefgh weight 1;person abcdefgi weight 1;person bbcdefgh weight 1;"), 3);
    }

    private static void faultsOfNumbers(Check c) {
        LeapArches x = new LeapArches();
        numbers(c, "net ", ";", 0, 9);
        numbers(c, "fog ", ";", 0, 5);
        numbers(c, "odds ", ";", 0, 16);
        numbers(c, "arch holds ", ";", 0, 60);
        numbers(c, "arch holds 1 moss ", ";", 0, 9);
        numbers(c, "arch holds 1 toll ", ";", 0, 9);
        numbers(c, "person a weight ", ";", 1, 40);
        numbers(c, "person a weight 1 doubt ", ";", 0, 9);
        numbers(c, "person a weight 1 love ", ";", 0, 9);
        numbers(c, "person a weight 1 at ", "; arch holds 3;", 0, 0);
        numbers(c, "arch holds 1;arch holds 2;person a weight 1 at ", ";", 0, 2);
        numbers(c, "plant ", " joy 1;", 1, 30);
        numbers(c, "plant 1 joy ", ";", 0, 99);
        c.viaductFault(x, "net 10 fog", 4, 4);
    }

    private static void numbers(Check c, String head, String tail, int least, int greatest) {
        int people = head.startsWith("person") || head.contains(";person") ? 1 : 0;
        c.due(head + least, Check.viaduct(new LeapArches(), head + least + tail), people);
        c.due(head + greatest, Check.viaduct(new LeapArches(), head + greatest + tail), people);
        LeapArches y = new LeapArches();
        c.viaductFault(y, head + (greatest + 1) + tail, 4, head.length());
        c.viaductFault(y, head + "9999" + tail, 4, head.length());
        if (least > 0) {
            c.viaductFault(y, head + (least - 1) + tail, 4, head.length());
        }
    }

    private static void faultsOfTooMany(Check c) {
        LeapArches x = new LeapArches();
        c.viaductFault(x, "net 1;net 1;", 5, 6);
        c.viaductFault(x, "net 1;fog 1;odds 1;fog", 5, 19);
        c.viaductFault(x, "odds 1;odds", 5, 7);
        c.due("each once", Check.viaduct(x, "odds 1;fog 1;net 1;"), 0);
        String nine = "arch holds 5;".repeat(9);
        c.due("nine arches", Check.viaduct(x, nine), 0);
        c.due("told(0)", x.told(0), 9);
        c.viaductFault(x, nine + "arch", 6, nine.length());
        StringBuilder six = new StringBuilder();
        for (char name = 'a'; name < 'g'; name++) {
            six.append("person ").append(name).append(" weight 1;");
        }
        c.due("six people", Check.viaduct(x, six.toString()), 6);
        c.viaductFault(x, six + " person a", 6, six.length() + 1);
        String eight = "plant 1 joy 1;".repeat(8);
        c.due("eight plants", Check.viaduct(x, eight), 0);
        c.due("told(2)", x.told(2), 8);
        c.viaductFault(x, eight + "plant 0", 6, eight.length());
    }

    private static void aFaultLeavesTheOldOne(Check c) {
        LeapArches x = Check.withViaduct(WHOLE);
        Check.decades(x, "run bo;");
        x.jump(0);
        c.viaductFault(x, "net 9;arch holds 3;person z weight 3;plant 3 joy 3;odds", 2, 55);
        c.due("told(0)", x.told(0), 3);
        c.due("told(1)", x.told(1), 3);
        c.due("told(3)", x.told(3), 1);
        c.due("told(8)", x.told(8), 1);
        c.due("arch(0, 0)", x.arch(0, 0), 11);
        c.due("the DECADES stay, too", x.live(0), 1);
        c.refused(x, "viaduct(5)", x.viaduct(5), 1);
        c.due("fault(0) behind a call with STATUS 1", x.fault(0), 2);
        c.due("fault(1)", x.fault(1), 55);
    }

    private static void aNewOneIsInPlaceOfTheOld(Check c) {
        LeapArches x = Check.withViaduct(WHOLE);
        Check.decades(x, "run bo;");
        x.run(0);
        x.run(2);
        x.jump(1);
        x.day(5);
        x.jump(0);
        c.due("viaduct", Check.viaduct(x, "arch holds 9;person q weight 3;"), 1);
        c.due("DAY", x.told(6), 0);
        c.due("TROD", x.told(8), 0);
        c.due("PAID", x.told(9), 0);
        c.due("NET", x.told(3), 3);
        c.due("FOG", x.told(4), 0);
        c.due("ODDS", x.told(5), 2);
        c.due("PLANTS", x.told(2), 0);
        c.due("MOSS", x.arch(0, 1), 0);
        c.due("DOUBT", x.person(0, 1), 1);
        c.due("LOVE", x.person(0, 2), 0);
        c.due("FELL", x.person(0, 5), 0);
        c.refused(x, "live(0)", x.live(0), 6);
        x.run(0);
        x.rule(3, 0);
        x.build(1, 1);
        x.run(0);
        x.day(3);
        Check.viaduct(x, WHOLE);
        x.jump(1);
        c.due("viaduct, a third one", Check.viaduct(x, "person r weight 4;person s weight 5;arch holds 3;"), 2);
        c.due("ARCHES", x.told(0), 1);
        c.due("DAY", x.told(6), 0);
        c.due("TROD", x.told(8), 0);
        c.due("FOG", x.told(4), 0);
        c.due("PLANTS", x.told(2), 0);
        for (int person = 0; person < 2; person++) {
            int[] fresh = {4 + person, 1, 0, 0, 0, 0};
            for (int what = 0; what < 6; what++) {
                c.due("person(" + person + ", " + what + ")", x.person(person, what), fresh[what]);
            }
        }
    }
}
