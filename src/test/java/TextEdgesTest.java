import java.nio.charset.StandardCharsets;

/** The edges of promises 9, 10, 12 to 16: the tape, VIADUCTS as texts, their FAULTS, what they tell. */
public final class TextEdgesTest {
    private static final String[] WORDS = {"net", "fog", "odds", "arch", "holds", "moss", "toll", "person", "weight", "doubt", "love", "at", "plant",
        "joy", "run", "rope", "jump", "home", "day", "any", "when", "over", "loop", "end", "stop"};

    public static void main(String[] args) {
        Check c = new Check("TextEdgesTest");
        theTapeFills(c);
        bytesInTheirOrder(c);
        nothingOfTheTape(c);
        theWholeTape(c);
        theTapeBehindEachEnding(c);
        everyByteAsAToken(c);
        tokensAsLongAsTheyGo(c);
        numbersByDigits(c);
        namesByLetters(c);
        namesThatAreNone(c);
        namesThatAreTaken(c);
        numbersOfParts(c);
        whereOneIs(c);
        asManyAsCanBe(c);
        oneToldAlready(c);
        theFirstFaultAlongTheText(c);
        theLeastKindOfOneToken(c);
        theEndIsThePlace(c);
        theEndOfTheTape(c);
        whatFaultTells(c);
        aNewViaductIsClean(c);
        setsThatAreEmptyAndFull(c);
        whatIsToldAtItsEnds(c);
        c.end();
    }

    private static final int BLANKS = 0x20202020;

    private static int feedBlanks(LeapArches x) {
        return x.feed(BLANKS, BLANKS, BLANKS, BLANKS, BLANKS);
    }

    private static void theTapeFills(Check c) {
        c.promise(9, "how many it has; NONE if there would be more than 900");
        LeapArches x = new LeapArches();
        for (int i = 1; i <= 44; i++) {
            c.due("feed " + i, feedBlanks(x), 20 * i);
        }
        c.due("the last that has room", x.feed(BLANKS, BLANKS, BLANKS, 0x20206e65, 0x7420363b), 900);
        c.due("one more", x.feed(0x40404040, 0, 0, 0, 0), -1);
        c.due("and one more", x.feed(0x40404040, 0, 0, 0, 0), -1);
        c.given(x, "the tape is as it was", x.viaduct(900), 0);
        c.due("NET, at the end of the tape", x.told(3), 6);
        c.due("there is room again", feedBlanks(x), 20);
    }

    private static void bytesInTheirOrder(Check c) {
        c.promise(9, "Twenty bytes come behind those on the tape, the highest of each int first");
        // Each place of the twenty in turn has the one sign that is no TOKEN.
        for (int place = 0; place < 20; place++) {
            int[] fours = {BLANKS, BLANKS, BLANKS, BLANKS, BLANKS};
            fours[place / 4] ^= 0xd0 << 8 * (3 - place % 4);
            LeapArches x = new LeapArches();
            feedBlanks(x);
            x.feed(fours[0], fours[1], fours[2], fours[3], fours[4]);
            c.refused(x, "viaduct(40)", x.viaduct(40), 9);
            c.due("its FAULT", x.fault(0), 1);
            c.due("its place", x.fault(1), 20 + place);
        }
        c.due("bytes above 127, too", new LeapArches().feed(-1, Integer.MIN_VALUE, Integer.MAX_VALUE, -2, 0), 20);
    }

    private static void nothingOfTheTape(Check c) {
        c.promise(10, "The first n bytes of the tape (which is empty then) are the VIADUCT");
        LeapArches x = States.rich();
        c.given(x, "viaduct(0), with a text on the tape", x.viaduct(0), 0);
        c.due("a VIADUCT of nothing", x.told(0) + x.told(1) + x.told(2), 0);
        c.due("NET without", x.told(3), 3);
        c.due("the tape is empty", feedBlanks(x), 20);
        LeapArches y = new LeapArches();
        c.given(y, "viaduct(0) of an empty tape", y.viaduct(0), 0);
        c.given(y, "decades(0) of an empty tape", y.decades(0), 0);
        c.refused(y, "viaduct(1) of an empty tape", y.viaduct(1), 1);
        c.refused(y, "viaduct(-1)", y.viaduct(-1), 1);
        c.given(y, "only blanks", Check.viaduct(y, " \n\n "), 0);
    }

    private static void theWholeTape(Check c) {
        c.promise(10, "A VIADUCT is a TEXT of at most 900 bytes.");
        LeapArches x = new LeapArches();
        String tail = "person last weight 40 doubt 9 love 9 at 0;";
        Check.feed(x, " ".repeat(900 - tail.length()) + tail);
        c.refused(x, "901", x.viaduct(901), 1);
        c.refused(x, "899, but for its semicolon", x.viaduct(899), 9);
        c.due("its place", x.fault(1), 899);
        Check.feed(x, " ".repeat(900 - tail.length()) + tail);
        c.given(x, "900", x.viaduct(900), 1);
        c.due("WEIGHT", x.person(0, 0), 40);
    }

    private static void theTapeBehindEachEnding(Check c) {
        c.promise(10, "(1: n below 0, or more than the tape has, too; 9: the old one stays)");
        LeapArches x = new LeapArches();
        Check.feed(x, "net 5;");
        c.refused(x, "21 of 20", x.viaduct(21), 1);
        c.refused(x, "-1", x.viaduct(-1), 1);
        c.due("the tape stays", feedBlanks(x), 40);
        c.given(x, "the first six", x.viaduct(6), 0);
        c.due("NET", x.told(3), 5);
        c.due("all of it is gone", feedBlanks(x), 20);
        x.viaduct(0);
        Check.feed(x, "net 5");
        c.refused(x, "a FAULT", x.viaduct(5), 9);
        c.due("the tape is empty, too", feedBlanks(x), 20);
        c.due("the old one stays", x.told(3), 3);
    }

    /** 0 a blank, 1 no TOKEN, 2 a TOKEN. */
    private static int kindOf(int sign) {
        if (sign == 10 || sign == 32) {
            return 0;
        }
        boolean token = sign >= 97 && sign <= 122 || sign >= 48 && sign <= 57 || sign >= 59 && sign <= 62;
        return token ? 2 : 1;
    }

    private static void everyByteAsAToken(Check c) {
        c.promise(10, "TOKENS, as long as they go, between them blanks (10, 32): WORDS (small letters), NUMBERS (1 to 4 digits), SIGNS ; < > =");
        for (int sign = 0; sign < 256; sign++) {
            String one = new String(new byte[] {(byte) sign}, StandardCharsets.ISO_8859_1);
            LeapArches x = new LeapArches();
            if (kindOf(sign) == 0) {
                c.due("byte " + sign, Check.viaduct(x, "net 4;" + one + "fog" + one + "3" + one + ";"), 0);
                c.due("FOG", x.told(4), 3);
                c.due("byte " + sign, Check.decades(x, one + "any" + one + ";" + one), 1);
            } else {
                c.viaductFault(x, "net 4;" + one, kindOf(sign), 6);
                c.decadesFault(x, "any; " + one, kindOf(sign), 5);
            }
        }
    }

    private static void tokensAsLongAsTheyGo(Check c) {
        c.promise(10, "as long as they go");
        LeapArches x = new LeapArches();
        c.due("no blank where TOKENS end by themselves", Check.viaduct(x, "net5;fog3;arch holds60moss9toll9;person a weight40doubt9love9at1;plant30joy99;"), 1);
        c.due("told", x.told(3) * 100 + x.arch(0, 1) * 10 + x.person(0, 3), 591);
        c.viaductFault(x, "netfog 5;", 2, 0);
        c.viaductFault(x, "ne t 5;", 2, 0);
        c.viaductFault(x, "arch holds 1 2;", 2, 13);
        c.viaductFault(x, "person a weight 3 doub t 1;", 2, 18);
        c.viaductFault(x, "arch holds 3 tolls 1;", 2, 13);
    }

    private static void numbersByDigits(Check c) {
        c.promise(10, "(a NUMBER of 5 digits and more: at its first)");
        LeapArches x = new LeapArches();
        for (String five : new String[] {"5", "05", "005", "0005"}) {
            c.given(x, "net " + five, Check.viaduct(x, "net " + five + ";"), 0);
            c.due("NET", x.told(3), 5);
        }
        c.viaductFault(x, "net 00005;", 1, 4);
        c.viaductFault(x, "net 00000000000000000005;", 1, 4);
        c.viaductFault(x, "net 99999", 1, 4);
        c.viaductFault(x, "net 4294967301;", 1, 4);
        c.viaductFault(x, "net 9999;", 4, 4);
        c.viaductFault(x, "net 1234 5;", 4, 4);
        c.given(x, "0000", Check.viaduct(x, "net 0000;"), 0);
        c.due("NET", x.told(3), 0);
    }

    private static void namesByLetters(Check c) {
        c.promise(10, "NAME: a WORD of 1 to 8 letters");
        LeapArches x = new LeapArches();
        String letters = "zyxwvutsrqponmlkjihgfedcba";
        for (int many = 1; many <= 8; many++) {
            c.given(x, many + " letters", Check.viaduct(x, "person " + letters.substring(0, many) + " weight 3;"), 1);
        }
        c.promise(10, "a WORD of 9 letters and more where a NAME must stand");
        c.viaductFault(x, "person " + letters.substring(0, 9) + " weight 3;", 2, 7);
        c.viaductFault(x, "person " + letters + " weight 3;", 2, 7);
        c.viaductFault(x, "person a weight 3;person aaaaaaaaa weight 3;", 2, 25);
    }

    private static void namesThatAreNone(Check c) {
        c.promise(10, "that is none of net, fog, odds, arch, holds, moss, toll, person, weight, doubt, love, at, plant, joy, run, rope, jump, home, day, any, when, over, loop, end, stop");
        for (String word : WORDS) {
            LeapArches x = new LeapArches();
            c.viaductFault(x, "person " + word + " weight 3;", 2, 7);
            c.given(x, word + "s", Check.viaduct(x, "person " + word + "s weight 3;"), 1);
            c.given(x, word + " but for its last letter", Check.viaduct(x, "person " + word.substring(0, word.length() - 1) + " weight 3;"), 1);
            c.given(x, word + " but for its first letter", Check.viaduct(x, "person z" + word.substring(1) + " weight 3;"), 1);
        }
    }

    private static void namesThatAreTaken(Check c) {
        c.promise(10, "No two PEOPLE have one NAME.");
        LeapArches x = new LeapArches();
        c.viaductFault(x, "person a weight 3;person a weight 3;", 3, 25);
        c.viaductFault(x, "person abcdefgh weight 3;person abcdefgh", 3, 32);
        c.viaductFault(x, "person a weight 3;person b weight 3;person d weight 3;person e weight 3;person f weight 3;person a", 3, 97);
        c.given(x, "one letter more, one less, another order", Check.viaduct(x, "person ab weight 3;person abc weight 3;person a weight 3;person ba weight 3;"), 4);
        c.given(x, "the first or the last of eight is another", Check.viaduct(x, "person abcdefgh weight 3;person bbcdefgh weight 3;person abcdefgg weight 3;"), 3);
        c.given(x, "the NAMES of the old one are free", Check.viaduct(x, "person abcdefgh weight 3;"), 1);
    }

    /** Both ends are taken, and told by this; what is beyond them is FAULT 4 at its place. */
    private static void ends(Check c, String head, String tail, int least, int greatest, Told told) {
        for (int v : new int[] {least, greatest}) {
            LeapArches x = new LeapArches();
            Check.viaduct(x, head + v + tail);
            c.due("status() of " + head + v + tail, x.status(), 0);
            c.due("what is told by " + head + v + tail, told.by(x), v);
        }
        LeapArches x = new LeapArches();
        c.viaductFault(x, head + (greatest + 1) + tail, 4, head.length());
        c.viaductFault(x, head + "9999" + tail, 4, head.length());
        if (least > 0) {
            c.viaductFault(x, head + (least - 1) + tail, 4, head.length());
        }
    }

    private interface Told {
        int by(LeapArches x);
    }

    private static void numbersOfParts(Check c) {
        c.promise(10, "NET (0 to 9; 3 without). FOG (0 to 5; 0 without). ODDS (0 to 16; 2 without).");
        ends(c, "net ", ";", 0, 9, x -> x.told(3));
        ends(c, "fog ", ";", 0, 5, x -> x.told(4));
        ends(c, "odds ", ";", 0, 16, x -> x.told(5));
        c.promise(10, "each HOLDS (0 to 60), MOSS (0 to 9; 0 without), a TOLL (0 to 9; 1 without)");
        ends(c, "arch holds ", ";", 0, 60, x -> x.arch(0, 0));
        ends(c, "arch holds 3 moss ", ";", 0, 9, x -> x.arch(0, 1));
        ends(c, "arch holds 3 toll ", ";", 0, 9, x -> x.arch(0, 2));
        c.promise(10, "WEIGHT (1 to 40), DOUBT (0 to 9; 1 without), LOVE (0 to 9; 0 without)");
        ends(c, "person a weight ", ";", 1, 40, x -> x.person(0, 0));
        ends(c, "person a weight 3 doubt ", ";", 0, 9, x -> x.person(0, 1));
        ends(c, "person a weight 3 love ", ";", 0, 9, x -> x.person(0, 2));
        c.promise(10, "SIZE (1 to 30), JOY (0 to 99)");
        ends(c, "plant ", " joy 3;", 1, 30, x -> x.plant(0, 0));
        ends(c, "plant 3 joy ", ";", 0, 99, x -> x.plant(0, 1));
        LeapArches x = Check.withViaduct("arch holds 3;person a weight 3;");
        int[] without = {x.told(3), x.told(4), x.told(5), x.arch(0, 1), x.arch(0, 2), x.person(0, 1), x.person(0, 2), x.person(0, 3)};
        int[] usual = {3, 0, 2, 0, 1, 1, 0, 0};
        c.promise(10, "3 without");
        for (int i = 0; i < usual.length; i++) {
            c.due("without, " + i, without[i], usual[i]);
        }
    }

    private static void whereOneIs(Check c) {
        c.promise(10, "AT how many ARCHES are behind one (0 to as many as are told so far; 0 without)");
        for (int arches = 0; arches <= 9; arches++) {
            String head = "arch holds 3;".repeat(arches) + "person a weight 3 at ";
            ends(c, head, ";", 0, arches, x -> x.person(0, 3));
        }
        c.viaductFault(new LeapArches(), "person a weight 3 at 1;arch holds 3;", 4, 21);
        c.viaductFault(new LeapArches(), "arch holds 3;person a weight 3 at 2;arch holds 3;", 4, 34);
    }

    private static String people(int many) {
        StringBuilder s = new StringBuilder();
        for (int i = 0; i < many; i++) {
            s.append("person ").append((char) ('p' + i)).append(" weight 3;");
        }
        return s.toString();
    }

    private static void asManyAsCanBe(Check c) {
        c.promise(10, "6 a tenth arch, a seventh person, a ninth plant (at that WORD).");
        LeapArches x = new LeapArches();
        String arches = "arch holds 3;".repeat(9);
        String plants = "plant 3 joy 3;".repeat(8);
        c.given(x, "as many as can be", Check.viaduct(x, arches + people(6) + plants), 6);
        c.due("told", x.told(0) * 100 + x.told(1) * 10 + x.told(2), 968);
        c.viaductFault(x, arches + "arch", 6, arches.length());
        c.viaductFault(x, arches + people(6) + plants + " arch holds 99;", 6, arches.length() + people(6).length() + plants.length() + 1);
        c.viaductFault(x, people(6) + "person", 6, people(6).length());
        c.viaductFault(x, people(6) + "person p", 6, people(6).length());
        c.viaductFault(x, plants + "plant", 6, plants.length());
        c.due("it is still there", x.told(0) * 100 + x.told(1) * 10 + x.told(2), 968);
        c.given(x, "none of anything", x.viaduct(0), 0);
    }

    private static void oneToldAlready(Check c) {
        c.promise(10, "5 net, fog, odds told already (at that WORD)");
        for (String word : new String[] {"net", "fog", "odds"}) {
            LeapArches x = new LeapArches();
            String once = word + " 1;";
            c.given(x, once, Check.viaduct(x, once), 0);
            c.given(x, "in another text once more", Check.viaduct(x, once), 0);
            c.viaductFault(x, once + word, 5, once.length());
            c.viaductFault(x, once + "arch holds 3; " + word + " 99;", 5, once.length() + 14);
            c.given(x, "behind a FAULT", Check.viaduct(x, once), 0);
        }
        LeapArches x = new LeapArches();
        c.given(x, "each once", Check.viaduct(x, "odds 0;net 0;fog 0;"), 0);
    }

    private static void theFirstFaultAlongTheText(Check c) {
        c.promise(10, "FAULTS, the first along the text");
        LeapArches x = new LeapArches();
        c.viaductFault(x, "net 10 @", 4, 4);
        c.viaductFault(x, "net @ 10", 1, 4);
        c.viaductFault(x, "net 1;net 10;", 5, 6);
        c.viaductFault(x, "net 10;net 1;", 4, 4);
        c.viaductFault(x, "person a weight 41;person a", 4, 16);
        c.viaductFault(x, "person a weight 40;person a weight 41;", 3, 26);
        c.viaductFault(x, "arch holds 61;" + "arch holds 3;".repeat(9), 4, 11);
        c.viaductFault(x, "fog; @", 2, 3);
        c.viaductFault(x, "net ".repeat(225), 2, 4);
        c.viaductFault(x, "<".repeat(900), 2, 0);
        c.viaductFault(x, "person a weight 1 doubt 1 love 1 at 0" + " at 0".repeat(100), 2, 38);
        c.viaductFault(x, "person a weight 1 doubt 1 love 1 at 0 " + "3 ".repeat(300), 2, 38);
    }

    private static void theLeastKindOfOneToken(Check c) {
        c.promise(10, "(of one TOKEN the least kind)");
        LeapArches x = new LeapArches();
        c.viaductFault(x, "12345;", 1, 0);
        c.viaductFault(x, "person 12345", 1, 7);
        c.viaductFault(x, "arch 12345", 1, 5);
        c.viaductFault(x, "net 1 net 1;", 2, 6);
        c.viaductFault(x, "net net", 2, 4);
        c.viaductFault(x, "arch holds 3;".repeat(9) + "net arch", 2, 121);
        c.viaductFault(x, people(6) + "plant person", 2, people(6).length() + 6);
        c.viaductFault(x, "person a weight 3;person at", 2, 25);
        c.viaductFault(x, "plant 3 99;", 2, 8);
    }

    private static void theEndIsThePlace(Check c) {
        c.promise(10, "2 it can't stand there (the end: the text's length");
        String whole = "person a weight 3 doubt 1 love 1 at 0;";
        for (int n = 1; n < whole.length(); n++) {
            LeapArches x = new LeapArches();
            Check.feed(x, whole);
            c.refused(x, "viaduct(" + n + ") of " + whole, x.viaduct(n), 9);
            String cut = whole.substring(0, n);
            boolean within = cut.matches(".*(^| )(p|pe|per|pers|perso|w|we|wei|weig|weigh|d|do|dou|doub|l|lo|lov|a)") && !cut.endsWith("person a");
            c.due("its FAULT", x.fault(0), 2);
            c.due("its place: the length, or the WORD that is cut", x.fault(1), within ? cut.lastIndexOf(' ') + 1 : n);
        }
        c.viaductFault(new LeapArches(), "net 5  \n\n", 2, 9);
        LeapArches cut = new LeapArches();
        Check.feed(cut, "net 55;");
        c.refused(cut, "a NUMBER that goes on behind the text", cut.viaduct(5), 9);
        c.due("its FAULT", cut.fault(0) * 100 + cut.fault(1), 205);
        Check.feed(cut, "net 4;12345");
        c.refused(cut, "a NUMBER of 5 digits of which 4 are in the text", cut.viaduct(10), 9);
        c.due("its FAULT", cut.fault(0) * 100 + cut.fault(1), 206);
        Check.feed(cut, "net 4;     @");
        c.given(cut, "blanks to the end of the text", cut.viaduct(11), 0);
    }

    private static void theEndOfTheTape(Check c) {
        c.promise(10, "2 it can't stand there (the end: the text's length");
        // What the tape ends with: its kind of FAULT and its place, from the end on.
        String[] tails = {"ne", "net", "plan", "net 5", "net 1234", "net 12345", "person abcdefgh", "person abcdefghi", "arch holds", "@", ";", "net 5;", " "};
        int[] kinds = {2, 2, 2, 2, 4, 1, 2, 2, 2, 1, 2, 0, 0};
        int[] back = {2, 0, 4, 0, 4, 5, 0, 9, 0, 1, 1, 901, 901};
        for (int i = 0; i < tails.length; i++) {
            LeapArches x = new LeapArches();
            Check.feed(x, " ".repeat(900 - tails[i].length()) + tails[i]);
            x.viaduct(900);
            c.due("status() of a tape that ends with " + tails[i], x.status(), kinds[i] == 0 ? 0 : 9);
            c.due("its FAULT", x.fault(0), kinds[i]);
            c.due("its place", x.fault(1), 900 - back[i]);
        }
    }

    private static void whatFaultTells(Check c) {
        c.promise(12, "Of the latest viaduct() or decades() with STATUS 0 or 9, what 0: the FAULT (0 without one), 1: its place (NONE without). NONE for others, and ahead of any.");
        LeapArches x = new LeapArches();
        faults(c, x, "ahead of any", -1, -1);
        x.viaduct(1);
        x.decades(-1);
        faults(c, x, "behind STATUS 1 alone", -1, -1);
        x.viaduct(0);
        faults(c, x, "behind one without a FAULT", 0, -1);
        Check.viaduct(x, "@");
        faults(c, x, "at the first byte", 1, 0);
        x.viaduct(1);
        x.decades(301);
        x.told(0);
        faults(c, x, "behind STATUS 1", 1, 0);
        x.decades(0);
        faults(c, x, "behind DECADES without a FAULT", 0, -1);
        Check.decades(x, "any");
        faults(c, x, "of DECADES", 2, 3);
        x.mark();
        x.undo();
        faults(c, x, "behind undo()", 2, 3);
        Check.viaduct(x, "net 1;");
        faults(c, x, "behind a VIADUCT that is taken", 0, -1);
    }

    private static void faults(Check c, LeapArches x, String when, int kind, int place) {
        int status = x.status();
        c.due("fault(0) " + when, x.fault(0), kind);
        c.due("fault(1) " + when, x.fault(1), place);
        for (int what : new int[] {2, -1, 7, Integer.MAX_VALUE, Integer.MIN_VALUE}) {
            c.due("fault(" + what + ") " + when, x.fault(what), -1);
        }
        c.due("it has no STATUS", x.status(), status);
    }

    private static void aNewViaductIsClean(Check c) {
        c.promise(10, "A VIADUCT that is taken is there in place of that ahead; it is DAY 0, nobody has PAID, no ARCH is TROD; there are no DECADES.");
        LeapArches x = States.full();
        c.given(x, "the text at both ends of the tape", x.viaduct(900), 1);
        String want = " told 1 1 0 6 0 2 0 0 0 0 arch 9 0 1 1 person 5 1 0 0 0 0";
        c.due("all of it: " + Whole.viaduct(x), Whole.viaduct(x).equals(want), true);
        c.refused(x, "no DECADES", x.live(0), 6);
        c.refused(x, "no DECADES", x.mean(0, 1), 6);
        c.given(x, "DAYS go by from the first on", x.day(99), 9);
        c.due("DAY", x.told(6), 99);
        c.due("one that came is new", x.come(3), 1);
        Check.viaduct(x, "net 0;fog 5;odds 16;" + "arch holds 60 moss 9 toll 9;".repeat(2) + "arch holds 1;person a weight 40 doubt 1 love 9 at 1;person b weight 40 doubt 9 love 9 at 1;plant 9 joy 9;");
        x.run(0);
        x.run(0);
        x.day(9);
        x.jump(0);
        x.run(1);
        // Both that were there are used again, in turn, for what is there next.
        for (int i = 0; i < 2; i++) {
            c.given(x, "a text of little", Check.viaduct(x, "arch holds 1;arch holds 2;arch holds 3;person q weight 1;person r weight 2;"), 2);
            String little = " told 3 2 0 3 0 2 0 0 0 0 arch 1 0 1 1 arch 2 0 1 3 arch 3 0 1 3 person 1 1 0 0 0 0 person 2 1 0 0 0 0";
            c.due("all of it: " + Whole.viaduct(x), Whole.viaduct(x).equals(little), true);
        }
        Check.viaduct(x, "arch holds 60 moss 9 toll 9;person a weight 40 doubt 9 love 9 at 1;");
        x.viaduct(0);
        x.viaduct(0);
        c.due("built and come on nothing", x.build(4, 0) + x.come(4), 0);
        String built = " told 1 1 0 3 0 2 0 0 0 0 arch 4 0 0 1 person 4 1 0 0 0 0";
        c.due("all of it: " + Whole.viaduct(x), Whole.viaduct(x).equals(built), true);
        c.promise(10, "9: the old one stays");
        LeapArches y = States.rich("arch holds 3;person q weight 3;@");
        String ahead = Whole.viaduct(States.rich());
        c.refused(y, "a FAULT at the end", y.viaduct(32), 9);
        c.due("all of it", Whole.viaduct(y).equals(ahead), true);
        c.due("its DECADES", y.mean(0, 1), true);
    }

    private static void setsThatAreEmptyAndFull(Check c) {
        LeapArches x = Check.withViaduct("net 0;" + "arch holds 3 toll 9;".repeat(9) + people(6));
        c.promise(13, "sets: of PEOPLE who are OVER (1 for PERSON 0 ..) (7), of ARCHES that are TROD (1 for ARCH 0 ..) (8); what all have PAID (9)");
        c.due("none is OVER", x.told(7), 0);
        c.due("none is TROD", x.told(8), 0);
        c.due("none has PAID", x.told(9), 0);
        x.run(5);
        c.due("PERSON 5", x.told(7), 32);
        c.due("all ARCHES", x.told(8), 511);
        x.day(1);
        c.due("none is TROD", x.told(8), 0);
        x.jump(8);
        c.due("ARCH 8", x.told(8), 256);
        for (int i = 0; i < 5; i++) {
            x.teach(i, 1, 0);
            x.run(i);
        }
        c.due("all PEOPLE", x.told(7), 63);
        c.due("what all have PAID", x.told(9), 6 * 81);
        c.due("of a new object, without ARCHES, nobody is there to be OVER", new LeapArches().told(7), 0);
        LeapArches none = Check.withViaduct(people(6));
        c.due("without ARCHES all are OVER", none.told(7), 63);
        c.promise(14, "3: the set of PEOPLE whom it BEARS (each alone)");
        LeapArches y = Check.withViaduct("arch holds 3;arch holds 2;arch holds 3 moss 1;" + people(6));
        c.given(y, "STRAIN is what it HOLDS", y.arch(0, 3), 63);
        c.given(y, "STRAIN is 1 more", y.arch(1, 3), 0);
        c.given(y, "STRAIN is 1 more by MOSS", y.arch(2, 3), 0);
        y.teach(5, 1, 0);
        c.given(y, "who has no DOUBT", y.arch(2, 3), 32);
        LeapArches nobody = Check.withViaduct("arch holds 3;");
        c.given(nobody, "without PEOPLE", nobody.arch(0, 3), 0);
    }

    private static void whatIsToldAtItsEnds(Check c) {
        LeapArches x = Check.withViaduct("net 0;arch holds 60 moss 9 toll 9;arch holds 0 moss 0 toll 0;person a weight 40 doubt 9 love 9 at 2;person b weight 1 doubt 0 love 0 at 0;plant 30 joy 99;plant 1 joy 0;");
        c.promise(14, "Of an ARCH, what 0: HOLDS, 1: MOSS, 2: TOLL");
        for (int what = 0; what < 3; what++) {
            c.given(x, "the most", x.arch(0, what), new int[] {60, 9, 9}[what]);
            c.given(x, "the least", x.arch(1, what), 0);
        }
        c.promise(15, "Of a PERSON, what 0: WEIGHT, 1: DOUBT, 2: LOVE, 3: how many ARCHES are behind him, 4: PAID, 5: how often he FELL");
        for (int what = 0; what < 6; what++) {
            c.given(x, "the most", x.person(0, what), new int[] {40, 9, 9, 2, 0, 0}[what]);
            c.given(x, "the least", x.person(1, what), new int[] {1, 0, 0, 0, 0, 0}[what]);
        }
        x.teach(1, 1, 1);
        x.teach(1, 2, 9);
        x.run(1);
        x.teach(1, 1, 9);
        x.home(1);
        x.jump(0);
        x.teach(1, 2, 0);
        x.teach(1, 0, 2);
        x.rule(4, 5);
        c.due("he is stopped at ARCH 0 and has none to fall from", x.run(1), 0);
        c.given(x, "PAID", x.person(1, 4), 9);
        c.given(x, "FELL", x.person(1, 5), 0);
        c.promise(16, "Of a PLANT, what 0: SIZE, 1: JOY");
        for (int what = 0; what < 2; what++) {
            c.given(x, "the most", x.plant(0, what), new int[] {30, 99}[what]);
            c.given(x, "the least", x.plant(1, what), new int[] {1, 0}[what]);
        }
    }
}
