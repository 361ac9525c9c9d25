/** The edges of promises 43 to 45: which DOUBT it was. */
public final class DoubtEdgesTest {
    // STRAIN in FOG f: 20 + DOUBT * f; in FOG 5 of DOUBT 4 it is 40, in FOG 1 of DOUBT 9 it is 29.
    private static final String ONE = "net 9;arch holds 40;person a weight 20 doubt 9 at 1;";

    public static void main(String[] args) {
        Check c = new Check("DoubtEdgesTest");
        noTwos(c);
        twentyTwos(c);
        tooFewNumbers(c);
        foggyNumbers(c);
        reachNumbers(c);
        numbersBeyondTheTwos(c);
        numbersOfEverySort(c);
        theFirstAndTheLastDoubt(c);
        fromNoArchOnWithAFall(c);
        theKthOfThese(c);
        askingForTwo(c);
        askingOfSeveral(c);
        askingInEachFog(c);
        c.end();
    }

    private static LeapArches on(String text, int sort, long... row) {
        LeapArches x = Check.withViaduct(text);
        States.lay(x, 0, sort, row);
        return x;
    }

    private static void noTwos(Check c) {
        c.promise(43, "the first n (0 to 20) twos: which DOUBTS (0 to 9), in place of his own, are so for all twos");
        LeapArches x = on(ONE, 0);
        c.given(x, "no twos: all ten", x.fits(0, 0, 0), 10);
        c.refused(x, "one of none", x.fits(0, 0, 1), 3);
        c.refused(x, "-1", x.fits(0, 0, -1), 1);
        c.promise(44, "The k-th of these, from 0 on");
        for (int k = 0; k < 10; k++) {
            c.given(x, "fitsAt(0, 0, 0, " + k + ")", x.fitsAt(0, 0, 0, k), k);
        }
        c.refused(x, "an eleventh", x.fitsAt(0, 0, 0, 10), 6);
        LeapArches bad = on(ONE, 0, 99, 99);
        c.promise(43, "the first n (0 to 20) twos");
        c.given(bad, "no twos of such as can't be", bad.fits(0, 0, 0), 10);
    }

    private static void twentyTwos(Check c) {
        c.promise(43, "the first n (0 to 20) twos");
        long[] row = new long[60];
        for (int i = 0; i < 40; i += 2) {
            row[i] = 5;
            row[i + 1] = 1;
        }
        LeapArches x = on(ONE, 0, row);
        c.given(x, "twenty, all in FOG 5 over: DOUBT 0 to 4", x.fits(0, 0, 20), 5);
        c.refused(x, "twenty-one", x.fits(0, 0, 21), 1);
        x.write(0, 39, 0);
        c.given(x, "the last of twenty is another", x.fits(0, 0, 20), 0);
        c.given(x, "nineteen", x.fits(0, 0, 19), 5);
        c.refused(x, "ask of twenty", x.ask(0, 0, 20), 6);
        c.given(x, "ask of nineteen: in all FOGS they are over", x.ask(0, 0, 19), 0);
    }

    private static void tooFewNumbers(Check c) {
        c.promise(43, "too few numbers");
        for (int many = 0; many <= 41; many++) {
            LeapArches x = on(ONE, 3, new long[many]);
            for (int n : new int[] {many / 2, many / 2 + 1}) {
                if (n > 20) {
                    c.refused(x, n + " twos", x.fits(0, 0, n), 1);
                } else if (2 * n <= many) {
                    c.given(x, n + " twos of " + many + " numbers", x.fits(0, 0, n), n == 0 ? 10 : 0);
                } else {
                    c.refused(x, n + " twos of " + many + " numbers", x.fits(0, 0, n), 3);
                    c.refused(x, "ask", x.ask(0, 0, n), 3);
                    c.refused(x, "fitsAt", x.fitsAt(0, 0, n, 0), 3);
                }
            }
        }
    }

    private static void foggyNumbers(Check c) {
        c.promise(43, "by twos FOG (0 to 5)");
        // In FOG f he is over by DOUBT to 20 / f.
        int[] over = {10, 10, 10, 7, 6, 5};
        for (int fog = 0; fog <= 5; fog++) {
            LeapArches x = on(ONE, 0, fog, 1);
            c.given(x, "FOG " + fog, x.fits(0, 0, 1), over[fog]);
            x.write(0, 1, 0);
            c.given(x, "FOG " + fog + ", stopped", x.fits(0, 0, 1), 10 - over[fog]);
        }
        for (int fog : new int[] {-1, 6, 127, -128}) {
            LeapArches x = on(ONE, 0, fog, 1);
            c.refused(x, "FOG " + fog, x.fits(0, 0, 1), 5);
            c.refused(x, "FOG " + fog, x.fitsAt(0, 0, 1, 0), 5);
            c.refused(x, "FOG " + fog, x.ask(0, 0, 1), 5);
        }
    }

    private static void reachNumbers(Check c) {
        c.promise(43, "REACH from no ARCH on in such a FOG (0 to as many as there are)");
        for (int arches = 0; arches <= 9; arches++) {
            String text = "net 9;" + "arch holds 40;".repeat(arches) + "person a weight 20;";
            for (int reach = 0; reach <= arches; reach++) {
                LeapArches x = on(text, 0, 0, reach);
                c.given(x, "REACH " + reach + " of " + arches, x.fits(0, 0, 1), reach == arches ? 10 : 0);
            }
            for (int reach : new int[] {-1, arches + 1}) {
                LeapArches x = on(text, 0, 0, reach);
                c.refused(x, "REACH " + reach + " of " + arches, x.fits(0, 0, 1), 5);
                c.refused(x, "REACH " + reach + " of " + arches, x.fitsAt(0, 0, 1, 0), 5);
                c.refused(x, "REACH " + reach + " of " + arches, x.ask(0, 0, 1), 5);
            }
        }
        LeapArches grows = on("person a weight 20;", 0, 0, 1);
        c.refused(grows, "no ARCH", grows.fits(0, 0, 1), 5);
        grows.build(20, 1);
        c.given(grows, "one ARCH", grows.fits(0, 0, 1), 10);
    }

    private static void numbersBeyondTheTwos(Check c) {
        c.promise(43, "5 a number in a TRAY that can't be");
        LeapArches x = on(ONE, 0, 0, 1, 0, 1, 6, 0);
        c.given(x, "the third two is not asked for", x.fits(0, 0, 2), 10);
        c.refused(x, "the third two", x.fits(0, 0, 3), 5);
        x.write(0, 4, 5);
        c.given(x, "it can be now", x.fits(0, 0, 3), 5);
        x.write(0, 0, -1);
        c.refused(x, "the first", x.fits(0, 0, 3), 5);
    }

    private static void numbersOfEverySort(Check c) {
        c.promise(43, "5 a number in a TRAY that can't be");
        for (int sort = 0; sort < 4; sort++) {
            LeapArches x = on(ONE, sort, 5, 1);
            c.given(x, "sort " + sort, x.fits(0, 0, 1), 5);
        }
        for (long v : new long[] {1L << 32, (1L << 32) + 1, Long.MAX_VALUE, Long.MIN_VALUE}) {
            LeapArches x = on(ONE, 3, v, 1);
            c.refused(x, "FOG " + v, x.fits(0, 0, 1), 5);
            x = on(ONE, 3, 0, v);
            c.refused(x, "REACH " + v, x.fits(0, 0, 1), 5);
        }
    }

    private static void theFirstAndTheLastDoubt(Check c) {
        c.promise(43, "which DOUBTS (0 to 9), in place of his own");
        // STRAIN 15 + 5 DOUBT of 15 and of 59: DOUBT 0 alone is over the first, 9 alone is stopped at the second.
        LeapArches least = on("net 9;arch holds 15;person a weight 15 doubt 5;", 0, 5, 1);
        c.given(least, "DOUBT 0 alone", least.fits(0, 0, 1), 1);
        c.given(least, "it is", least.fitsAt(0, 0, 1, 0), 0);
        c.refused(least, "no second", least.fitsAt(0, 0, 1, 1), 6);
        LeapArches greatest = on("net 9;arch holds 59;person a weight 15 doubt 5;", 0, 5, 0);
        c.given(greatest, "DOUBT 9 alone", greatest.fits(0, 0, 1), 1);
        c.given(greatest, "it is", greatest.fitsAt(0, 0, 1, 0), 9);
        greatest.jump(0);
        c.given(greatest, "15 + 45 of 60: none", greatest.fits(0, 0, 1), 0);
        c.refused(greatest, "no first", greatest.fitsAt(0, 0, 1, 0), 6);
        c.due("his own stays", greatest.person(0, 1), 5);
    }

    private static void fromNoArchOnWithAFall(Check c) {
        c.promise(43, "REACH from no ARCH on in such a FOG");
        // In FOG 1 ARCH 2 stops who has DOUBT: he falls to 1.
        String text = "net 1;fog 5;arch holds 60;arch holds 60;arch holds 20;arch holds 60;person a weight 20 at 4;";
        int[] many = {0, 9, 0, 0, 1};
        for (int reach = 0; reach <= 4; reach++) {
            LeapArches x = on(text, 0, 1, reach);
            c.given(x, "REACH " + reach + ", NET 1", x.fits(0, 0, 1), many[reach]);
        }
        LeapArches high = on(text, 0, 1, 2);
        high.rule(3, 2);
        c.given(high, "REACH 2, NET 2", high.fits(0, 0, 1), 9);
        LeapArches light = on("net 0;arch holds 60;arch holds 19;person a weight 20;", 0, 0, 1);
        c.given(light, "DOUBT 0 does not fall", light.fits(0, 0, 1), 1);
        c.given(light, "it is", light.fitsAt(0, 0, 1, 0), 0);
    }

    private static void theKthOfThese(Check c) {
        c.promise(44, "(1: k below 0, too; 2; 3; 5; 6: no such)");
        LeapArches x = on(ONE, 0, 5, 0, 3, 1);
        c.given(x, "5 and 6: stopped in FOG 5, over in FOG 3", x.fits(0, 0, 2), 2);
        c.given(x, "the first", x.fitsAt(0, 0, 2, 0), 5);
        c.given(x, "the last", x.fitsAt(0, 0, 2, 1), 6);
        c.refused(x, "no third", x.fitsAt(0, 0, 2, 2), 6);
        c.refused(x, "MAX", x.fitsAt(0, 0, 2, Integer.MAX_VALUE), 6);
        c.refused(x, "-1", x.fitsAt(0, 0, 2, -1), 1);
        c.refused(x, "MIN", x.fitsAt(0, 0, 2, Integer.MIN_VALUE), 1);
    }

    private static void askingForTwo(Check c) {
        c.promise(45, "ASK (1; 2; 3; 5; 6: fewer than two).");
        LeapArches two = on(ONE, 0, 5, 0, 3, 1);
        // DOUBT 5 and 6: 40 and 44 in FOG 4, alike in all others.
        c.given(two, "two are parted in FOG 4", two.ask(0, 0, 2), 4);
        two.write(0, 0, 4);
        c.refused(two, "one: DOUBT 6", two.ask(0, 0, 2), 6);
        two.write(0, 3, 0);
        two.write(0, 2, 0);
        c.refused(two, "none", two.ask(0, 0, 2), 6);
    }

    private static void askingOfSeveral(Check c) {
        c.promise(45, "ASK: the FOG (0 to 5) by which these are parted the best: the most with one REACH are the fewest; of several the least.");
        LeapArches five = on(ONE, 0);
        c.given(five, "all: five are over in FOG 5", five.ask(0, 0, 0), 5);
        LeapArches alike = on("arch holds 60;person a weight 1;", 0);
        c.given(alike, "alike in all FOGS: the least", alike.ask(0, 0, 0), 0);
        LeapArches none = on("person a weight 1;", 0);
        c.given(none, "without ARCHES", none.ask(0, 0, 0), 0);
        // 20 + DOUBT (f + 1) of 25: DOUBT to 5 in FOG 0 (six), to 2 in FOG 1 (seven are stopped).
        LeapArches nought = on("arch holds 25 moss 1;person a weight 20;", 0);
        c.given(nought, "six and four in FOG 0", nought.ask(0, 0, 0), 0);
        // 20 + DOUBT f of 25 and of 34 (NET 9): FOG 1: to 5, all; 2: to 2, to 7: three, five, two; 3: to 1, to 4: two, three, five.
        LeapArches several = on("net 9;arch holds 34;arch holds 25;person a weight 20;", 0);
        c.given(several, "FOG 2 and 3 are as good", several.ask(0, 0, 0), 2);
        // At 0, at 1, over: FOG 2: four, one, five; FOG 3: five, two, three: it is the most that counts, not the least.
        LeapArches three = on("net 9;arch holds 50 moss 3;arch holds 33;person a weight 25;", 0);
        c.given(three, "FOG 2 and 3 are as good by the most", three.ask(0, 0, 0), 2);
    }

    private static void askingInEachFog(Check c) {
        c.promise(45, "ASK: the FOG (0 to 5)");
        // 20 + DOUBT f of 20 + 4 f: in FOG f five are over, in a lesser one more, in a greater one fewer.
        for (int fog = 1; fog <= 5; fog++) {
            LeapArches x = on("net 9;arch holds " + (20 + 4 * fog) + ";person a weight 20;", 0);
            c.given(x, "FOG " + fog, x.ask(0, 0, 0), fog);
        }
        LeapArches none = on("net 9;arch holds 24 moss 1;person a weight 20;", 0);
        c.given(none, "FOG 0", none.ask(0, 0, 0), 0);
    }
}
