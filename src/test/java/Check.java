import java.nio.charset.StandardCharsets;

/** What the tests share: it compares answers, tells the wrong ones, and puts texts on the tape. */
final class Check {
    private final String what;
    private int asked = 0;
    private int wrong = 0;
    private String heading = "";

    Check(String what) {
        this.what = what;
    }

    /** What is asked from here on is of this promise, and of this piece of the document; QuotesTest looks both up. */
    void promise(int number, String piece) {
        heading = "promise " + number + " (" + piece + "): ";
    }

    void due(String call, long got, long want) {
        asked++;
        if (got != want) {
            wrong++;
            System.out.println(what + ": " + heading + call + " answered " + got + ", due is " + want);
        }
    }

    /** A call that has STATUS 0. */
    void given(LeapArches x, String call, long got, long want) {
        due(call, got, want);
        due("status() behind " + call, x.status(), 0);
    }

    void given(LeapArches x, String call, boolean got) {
        due(call, got, true);
        due("status() behind " + call, x.status(), 0);
    }

    void due(String call, boolean got, boolean want) {
        due(call, got ? 1 : 0, want ? 1 : 0);
    }

    /** A call that has this STATUS, which is asked right behind it. */
    void refused(LeapArches x, String call, long got, int status) {
        due(call, got, LeapArches.NONE);
        due("status() behind " + call, x.status(), status);
    }

    void refused(LeapArches x, String call, boolean got, int status) {
        due(call, got, false);
        due("status() behind " + call, x.status(), status);
    }

    void fraction(LeapArches x, String call, boolean got, long top, long bottom) {
        due(call, got, true);
        due("status() behind " + call, x.status(), 0);
        due("top() behind " + call, x.top(), top);
        due("bottom() behind " + call, x.bottom(), bottom);
    }

    /** A text that is refused: its FAULT and its place. */
    void viaductFault(LeapArches x, String text, int kind, int place) {
        String call = "viaduct of \"" + text + "\"";
        refused(x, call, viaduct(x, text), 9);
        due("fault(0) behind " + call, x.fault(0), kind);
        due("fault(1) behind " + call, x.fault(1), place);
    }

    void decadesFault(LeapArches x, String text, int kind, int place) {
        String call = "decades of \"" + text + "\"";
        refused(x, call, decades(x, text), 9);
        due("fault(0) behind " + call, x.fault(0), kind);
        due("fault(1) behind " + call, x.fault(1), place);
    }

    static int viaduct(LeapArches x, String text) {
        return x.viaduct(feed(x, text));
    }

    static int decades(LeapArches x, String text) {
        return x.decades(feed(x, text));
    }

    /** Only of a text that is right: a test must not go on with a VIADUCT of nothing unseen. */
    static LeapArches withViaduct(String text) {
        LeapArches x = new LeapArches();
        viaduct(x, text);
        if (x.status() != 0) {
            throw new IllegalStateException("FAULT " + x.fault(0) + " at " + x.fault(1) + " of " + text);
        }
        return x;
    }

    static int feed(LeapArches x, String text) {
        byte[] bytes = text.getBytes(StandardCharsets.ISO_8859_1);
        for (int from = 0; from < bytes.length; from += 20) {
            x.feed(four(bytes, from), four(bytes, from + 4), four(bytes, from + 8), four(bytes, from + 12), four(bytes, from + 16));
        }
        return bytes.length;
    }

    static int four(byte[] bytes, int from) {
        int four = 0;
        for (int i = from; i < from + 4; i++) {
            four = four << 8 | (i < bytes.length ? bytes[i] & 255 : 0);
        }
        return four;
    }

    void end() {
        System.out.println(what + ": " + asked + " answers, " + wrong + " wrong");
        if (wrong != 0) {
            System.exit(1);
        }
    }
}
