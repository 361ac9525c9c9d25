import java.io.ByteArrayOutputStream;
import java.math.BigInteger;
import java.nio.charset.StandardCharsets;
import java.util.ArrayDeque;
import java.util.ArrayList;
import java.util.Arrays;
import java.util.Deque;
import java.util.HashMap;
import java.util.List;
import java.util.Map;
import java.util.function.IntSupplier;

/** The document once more, in plain and slow Java, for RandomRunsTest to hold the class against. */
public final class NaiveModel {
    static final class Arch {
        int holds;
        int moss;
        int toll;
        boolean trod;

        Arch copy() {
            Arch a = new Arch();
            a.holds = holds;
            a.moss = moss;
            a.toll = toll;
            a.trod = trod;
            return a;
        }
    }

    static final class Person {
        String name = "";
        int weight;
        int doubt = 1;
        int love;
        int at;
        int paid;
        int fell;

        Person copy() {
            Person p = new Person();
            p.name = name;
            p.weight = weight;
            p.doubt = doubt;
            p.love = love;
            p.at = at;
            p.paid = paid;
            p.fell = fell;
            return p;
        }
    }

    static final class World {
        List<Arch> arches = new ArrayList<>();
        List<Person> people = new ArrayList<>();
        List<int[]> plants = new ArrayList<>();
        int net = 3;
        int fog = 0;
        int odds = 2;
        int day = 0;

        World copy() {
            World w = new World();
            arches.forEach(a -> w.arches.add(a.copy()));
            people.forEach(p -> w.people.add(p.copy()));
            w.plants.addAll(plants);
            w.net = net;
            w.fog = fog;
            w.odds = odds;
            w.day = day;
            return w;
        }

        boolean over(Person p) {
            return p.at == arches.size();
        }

        int strain(Person p, Arch a) {
            return p.weight - p.love + p.doubt * (a.moss + fog);
        }

        int strain(Person p, Person q, Arch a) {
            Person heavy = p.weight >= q.weight ? p : q;
            Person light = heavy == p ? q : p;
            return heavy.weight + (int) Math.floor(light.weight / 2.0) - p.love - q.love
                + Math.min(p.doubt, q.doubt) * (a.moss + fog);
        }

        void fall(Person p) {
            if (!over(p) && p.doubt > 0 && p.at > net) {
                p.at = net;
                p.fell++;
            }
        }

        void run(Person p) {
            while (!over(p) && strain(p, arches.get(p.at)) <= arches.get(p.at).holds) {
                arches.get(p.at).trod = true;
                p.paid += arches.get(p.at).toll;
                p.at++;
            }
            fall(p);
        }

        int rope(Person p, Person q) {
            int gone = 0;
            while (!over(p) && strain(p, q, arches.get(p.at)) <= arches.get(p.at).holds) {
                arches.get(p.at).trod = true;
                p.paid += arches.get(p.at).toll;
                p.at++;
                q.at++;
                gone++;
            }
            boolean left = !over(p);
            if (left) {
                fall(p);
                fall(q);
            }
            return gone;
        }

        boolean canJump(Arch a) {
            return !(a.holds == 60 && a.moss == 0);
        }

        void jump(Arch a) {
            if (a.holds < 60) {
                a.holds++;
            }
            if (a.moss > 0) {
                a.moss--;
            }
            a.trod = true;
        }

        void oneDay() {
            for (Arch a : arches) {
                if (a.trod && a.moss > 0) {
                    a.moss--;
                } else if (!a.trod && a.moss < 9) {
                    a.moss++;
                }
                a.trod = false;
            }
            day++;
        }
    }

    // ---- texts.

    static final class Fault extends RuntimeException {
        private static final long serialVersionUID = 1L;
        final int kind;
        final int place;

        Fault(int kind, int place) {
            this.kind = kind;
            this.place = place;
        }
    }

    static final List<String> WORDS = Arrays.asList("net", "fog", "odds", "arch", "holds", "moss", "toll", "person",
        "weight", "doubt", "love", "at", "plant", "joy", "run", "rope", "jump", "home", "day", "any", "when", "over",
        "loop", "end", "stop");

    /** Looks at the text byte by byte, without a list of TOKENS. */
    static class Source {
        final String s;
        int i = 0;

        Source(String s) {
            this.s = s;
        }

        void blanks() {
            while (i < s.length() && (s.charAt(i) == '\n' || s.charAt(i) == ' ')) {
                i++;
            }
        }

        boolean ended() {
            blanks();
            return i == s.length();
        }

        /** The TOKEN that begins here, or "" at the end. */
        String look() {
            blanks();
            if (i == s.length()) {
                return "";
            }
            String rest = s.substring(i);
            for (String kind : new String[] {"^[a-z]+", "^[0-9]+", "^[;<>=]"}) {
                java.util.regex.Matcher m = java.util.regex.Pattern.compile(kind).matcher(rest);
                if (m.find()) {
                    if (kind.equals("^[0-9]+") && m.group().length() > 4) {
                        throw new Fault(1, i);
                    }
                    return m.group();
                }
            }
            throw new Fault(1, i);
        }

        boolean is(String token) {
            return look().equals(token);
        }

        void skip() {
            i += look().length();
        }

        void must(String token) {
            if (!is(token)) {
                throw new Fault(2, i);
            }
            skip();
        }

        int number(int least, int greatest) {
            String t = look();
            if (!t.matches("[0-9]+")) {
                throw new Fault(2, i);
            }
            int v = Integer.parseInt(t);
            if (v < least || v > greatest) {
                throw new Fault(4, i);
            }
            skip();
            return v;
        }

        String name() {
            String t = look();
            if (!t.matches("[a-z]{1,8}") || WORDS.contains(t)) {
                throw new Fault(2, i);
            }
            return t;
        }

        int option(String word, int greatest, int without) {
            if (!is(word)) {
                return without;
            }
            skip();
            return number(0, greatest);
        }
    }

    static World readViaduct(String text) {
        Source s = new Source(text);
        World w = new World();
        List<String> told = new ArrayList<>();
        while (!s.ended()) {
            String t = s.look();
            if (t.equals("net") || t.equals("fog") || t.equals("odds")) {
                if (told.contains(t)) {
                    throw new Fault(5, s.i);
                }
                told.add(t);
                s.skip();
                if (t.equals("net")) {
                    w.net = s.number(0, 9);
                } else if (t.equals("fog")) {
                    w.fog = s.number(0, 5);
                } else {
                    w.odds = s.number(0, 16);
                }
            } else if (t.equals("arch")) {
                if (w.arches.size() == 9) {
                    throw new Fault(6, s.i);
                }
                s.skip();
                s.must("holds");
                Arch a = new Arch();
                a.holds = s.number(0, 60);
                a.moss = s.option("moss", 9, 0);
                a.toll = s.option("toll", 9, 1);
                w.arches.add(a);
            } else if (t.equals("person")) {
                readPerson(s, w);
            } else if (t.equals("plant")) {
                if (w.plants.size() == 8) {
                    throw new Fault(6, s.i);
                }
                s.skip();
                int size = s.number(1, 30);
                s.must("joy");
                w.plants.add(new int[] {size, s.number(0, 99)});
            } else {
                throw new Fault(2, s.i);
            }
            s.must(";");
        }
        return w;
    }

    private static void readPerson(Source s, World w) {
        if (w.people.size() == 6) {
            throw new Fault(6, s.i);
        }
        s.skip();
        Person p = new Person();
        p.name = s.name();
        for (Person other : w.people) {
            if (other.name.equals(p.name)) {
                throw new Fault(3, s.i);
            }
        }
        s.skip();
        s.must("weight");
        p.weight = s.number(1, 40);
        p.doubt = s.option("doubt", 9, 1);
        p.love = s.option("love", 9, 0);
        p.at = s.option("at", w.arches.size(), 0);
        w.people.add(p);
    }

    /** A STEP with what stands within it. */
    static final class Step {
        String word;
        int a;
        int b;
        String test;
        String sign;
        List<Step> body = new ArrayList<>();
    }

    static final class StepSource extends Source {
        final World w;
        int count = 0;

        StepSource(String s, World w) {
            super(s);
            this.w = w;
        }

        int who() {
            String n = name();
            for (int k = 0; k < w.people.size(); k++) {
                if (w.people.get(k).name.equals(n)) {
                    skip();
                    return k;
                }
            }
            throw new Fault(3, i);
        }

        List<Step> steps(int depth) {
            List<Step> all = new ArrayList<>();
            while (!ended() && !is("end")) {
                all.add(step(depth));
            }
            return all;
        }

        Step step(int depth) {
            Step st = new Step();
            st.word = look();
            if (!Arrays.asList("run", "rope", "jump", "home", "day", "fog", "any", "when", "loop", "stop").contains(st.word)) {
                throw new Fault(2, i);
            }
            if (count == 30) {
                throw new Fault(6, i);
            }
            boolean nests = st.word.equals("when") || st.word.equals("loop");
            if (nests && depth == 3) {
                throw new Fault(7, i);
            }
            count++;
            skip();
            switch (st.word) {
                case "run", "home" -> st.a = who();
                case "rope" -> {
                    st.a = who();
                    st.b = who();
                }
                case "jump" -> st.a = number(0, w.arches.size() - 1);
                case "day" -> st.a = number(1, 40);
                case "fog" -> st.a = number(0, 5);
                case "loop" -> st.a = number(1, 99);
                case "when" -> test(st);
                default -> { }
            }
            must(";");
            if (nests) {
                st.body = steps(depth + 1);
                must("end");
                must(";");
            }
            return st;
        }

        void test(Step st) {
            st.test = look();
            if (!Arrays.asList("over", "at", "moss").contains(st.test)) {
                throw new Fault(2, i);
            }
            skip();
            st.a = st.test.equals("moss") ? number(0, w.arches.size() - 1) : who();
            if (!st.test.equals("over")) {
                st.sign = look();
                if (!st.sign.matches("[<>=]")) {
                    throw new Fault(2, i);
                }
                skip();
                st.b = number(0, 9);
            }
        }
    }

    // ---- DECADES.

    static final class Stopped extends RuntimeException {
        private static final long serialVersionUID = 1L;
    }

    static final class Lives {
        final World w;
        int s;
        int done;
        int missed;
        int days;
        int left;

        Lives(World w, int seed) {
            this.w = w;
            s = seed;
        }

        int draw(int n) {
            s = (int) ((s * 3217L + 11447L) % 65536L);
            return (int) Math.floor(s / 8.0) % n;
        }

        void all(List<Step> steps) {
            try {
                each(steps);
            } catch (Stopped stopped) {
                return;
            }
        }

        void each(List<Step> steps) {
            for (Step st : steps) {
                if (done == 300) {
                    left = 1;
                    throw new Stopped();
                }
                done++;
                switch (st.word) {
                    case "stop" -> throw new Stopped();
                    case "when" -> {
                        if (holds(st)) {
                            each(st.body);
                        }
                    }
                    case "loop" -> {
                        for (int k = 0; k < st.a; k++) {
                            each(st.body);
                        }
                    }
                    default -> {
                        if (!did(st)) {
                            missed++;
                        }
                    }
                }
            }
        }

        boolean holds(Step st) {
            if (st.test.equals("over")) {
                return w.over(w.people.get(st.a));
            }
            int v = st.test.equals("at") ? w.people.get(st.a).at : w.arches.get(st.a).moss;
            return st.sign.equals("<") ? v < st.b : st.sign.equals(">") ? v > st.b : v == st.b;
        }

        boolean runs(Person p) {
            if (w.over(p)) {
                return false;
            }
            w.run(p);
            return true;
        }

        boolean homes(Person p) {
            boolean can = p.at > 0;
            p.at = 0;
            return can;
        }

        boolean did(Step st) {
            switch (st.word) {
                case "run":
                    return runs(w.people.get(st.a));
                case "home":
                    return homes(w.people.get(st.a));
                case "rope":
                    Person p = w.people.get(st.a);
                    Person q = w.people.get(st.b);
                    if (p == q || p.at != q.at || w.over(p)) {
                        return false;
                    }
                    w.rope(p, q);
                    return true;
                case "jump":
                    boolean can = w.canJump(w.arches.get(st.a));
                    if (can) {
                        w.jump(w.arches.get(st.a));
                    }
                    return can;
                case "day":
                    if (w.day + st.a > 9999) {
                        return false;
                    }
                    for (int k = 0; k < st.a; k++) {
                        w.oneDay();
                        days++;
                    }
                    return true;
                case "fog":
                    boolean other = w.fog != st.a;
                    w.fog = st.a;
                    return other;
                default:
                    if (w.people.isEmpty()) {
                        return false;
                    }
                    Person who = w.people.get(draw(w.people.size()));
                    int d = draw(16);
                    return d < w.odds ? runs(who) : homes(who);
            }
        }
    }

    // ---- the object.

    private World w = new World();
    private List<Step> decades = null;
    private int steps = 0;
    private int status = 0;
    private BigInteger top = BigInteger.ZERO;
    private BigInteger bottom = BigInteger.ONE;
    private final Map<Integer, long[]> trays = new HashMap<>();
    private final Map<Integer, Integer> sorts = new HashMap<>();
    private ByteArrayOutputStream tape = new ByteArrayOutputStream();
    private int faultKind = -1;
    private int faultPlace = -1;
    private int[] lived = null;
    private final Deque<Object[]> marks = new ArrayDeque<>();

    // Sizes for who makes up calls: without a STATUS.

    int arches() {
        return w.arches.size();
    }

    int people() {
        return w.people.size();
    }

    int plants() {
        return w.plants.size();
    }

    List<String> names() {
        return w.people.stream().map(p -> p.name).filter(n -> !n.isEmpty()).toList();
    }

    private int no(int s) {
        status = s;
        return -1;
    }

    private boolean off(int s) {
        status = s;
        return false;
    }

    private int ok(int v) {
        status = 0;
        return v;
    }

    private boolean ok() {
        status = 0;
        return true;
    }

    private static boolean in(long v, long a, long b) {
        return a <= v && v <= b;
    }

    private boolean isArch(int a) {
        return in(a, 0, w.arches.size() - 1);
    }

    private boolean isPerson(int p) {
        return in(p, 0, w.people.size() - 1);
    }

    private boolean areTwo(int p, int q) {
        return isPerson(p) && isPerson(q) && p != q;
    }

    private boolean isSet(int set) {
        return in(set, 0, (1 << w.people.size()) - 1);
    }

    private void fraction(BigInteger a, BigInteger b) {
        BigInteger g = a.gcd(b);
        top = a.divide(g);
        bottom = b.divide(g);
    }

    public int status() {
        return status;
    }

    public long top() {
        return top.longValueExact();
    }

    public long bottom() {
        return bottom.longValueExact();
    }

    public boolean tray(int tray, int sort, int many) {
        if (!in(tray, 0, 3) || !in(sort, 0, 3) || !in(many, 0, 60)) {
            return off(1);
        }
        trays.put(tray, new long[many]);
        sorts.put(tray, sort);
        return ok();
    }

    private static long cut(int sort, long v) {
        int bits = 8 << sort;
        BigInteger mod = BigInteger.ONE.shiftLeft(bits);
        BigInteger r = BigInteger.valueOf(v).mod(mod);
        return (r.testBit(bits - 1) ? r.subtract(mod) : r).longValueExact();
    }

    public boolean write(int tray, int place, long v) {
        if (read(tray, place) == -1 && status != 0) {
            return false;
        }
        trays.get(tray)[place] = cut(sorts.get(tray), v);
        return ok();
    }

    public long read(int tray, int place) {
        if (!in(tray, 0, 3)) {
            return no(1);
        }
        if (!trays.containsKey(tray)) {
            return no(2);
        }
        if (!in(place, 0, trays.get(tray).length - 1)) {
            return no(3);
        }
        status = 0;
        return trays.get(tray)[place];
    }

    public boolean pour(int from, int place, int to, int at, int many) {
        if (!in(from, 0, 3) || !in(to, 0, 3) || place < 0 || at < 0 || many < 0) {
            return off(1);
        }
        if (!trays.containsKey(from) || !trays.containsKey(to)) {
            return off(2);
        }
        if (!sorts.get(from).equals(sorts.get(to))) {
            return off(8);
        }
        if ((long) place + many > trays.get(from).length || (long) at + many > trays.get(to).length) {
            return off(3);
        }
        long[] taken = Arrays.copyOfRange(trays.get(from), place, place + many);
        for (int i = 0; i < many; i++) {
            trays.get(to)[at + i] = taken[i];
        }
        return ok();
    }

    public int feed(int a, int b, int c, int d, int e) {
        if (tape.size() + 20 > 900) {
            return -1;
        }
        for (int v : new int[] {a, b, c, d, e}) {
            tape.write(v >>> 24);
            tape.write(v >>> 16);
            tape.write(v >>> 8);
            tape.write(v);
        }
        return tape.size();
    }

    private int reads(int n, IntSupplier reader) {
        tape = new ByteArrayOutputStream();
        faultKind = 0;
        faultPlace = -1;
        try {
            return ok(reader.getAsInt());
        } catch (Fault f) {
            faultKind = f.kind;
            faultPlace = f.place;
            return no(9);
        }
    }

    public int viaduct(int n) {
        if (n < 0 || n > tape.size()) {
            return no(1);
        }
        String text = new String(tape.toByteArray(), 0, n, StandardCharsets.ISO_8859_1);
        return reads(n, () -> {
            w = readViaduct(text);
            decades = null;
            return w.people.size();
        });
    }

    public int decades(int n) {
        if (n < 0 || n > tape.size() || n > 300) {
            return no(1);
        }
        String text = new String(tape.toByteArray(), 0, n, StandardCharsets.ISO_8859_1);
        return reads(n, () -> {
            StepSource s = new StepSource(text, w);
            List<Step> all = s.steps(0);
            if (!s.ended()) {
                throw new Fault(2, s.i);
            }
            decades = all;
            steps = s.count;
            return steps;
        });
    }

    public int fault(int what) {
        return what == 0 ? faultKind : what == 1 ? faultPlace : -1;
    }

    public int told(int what) {
        int set = 0;
        switch (what) {
            case 0: return ok(w.arches.size());
            case 1: return ok(w.people.size());
            case 2: return ok(w.plants.size());
            case 3: return ok(w.net);
            case 4: return ok(w.fog);
            case 5: return ok(w.odds);
            case 6: return ok(w.day);
            case 7:
                for (int i = 0; i < w.people.size(); i++) {
                    set += w.over(w.people.get(i)) ? 1 << i : 0;
                }
                return ok(set);
            case 8:
                for (int i = 0; i < w.arches.size(); i++) {
                    set += w.arches.get(i).trod ? 1 << i : 0;
                }
                return ok(set);
            case 9: return ok(w.people.stream().mapToInt(p -> p.paid).sum());
            default: return no(1);
        }
    }

    private int bears(Arch a) {
        int set = 0;
        for (int i = 0; i < w.people.size(); i++) {
            set += w.strain(w.people.get(i), a) <= a.holds ? 1 << i : 0;
        }
        return set;
    }

    public int arch(int arch, int what) {
        if (!isArch(arch) || !in(what, 0, 3)) {
            return no(1);
        }
        Arch a = w.arches.get(arch);
        return ok(new int[] {a.holds, a.moss, a.toll, bears(a)}[what]);
    }

    public int person(int person, int what) {
        if (!isPerson(person) || !in(what, 0, 5)) {
            return no(1);
        }
        Person p = w.people.get(person);
        return ok(new int[] {p.weight, p.doubt, p.love, p.at, p.paid, p.fell}[what]);
    }

    public int plant(int plant, int what) {
        if (!in(plant, 0, w.plants.size() - 1) || !in(what, 0, 1)) {
            return no(1);
        }
        return ok(w.plants.get(plant)[what]);
    }

    public int run(int person) {
        if (!isPerson(person)) {
            return no(1);
        }
        Person p = w.people.get(person);
        if (w.over(p)) {
            return no(7);
        }
        w.run(p);
        return ok(p.at);
    }

    public int rope(int person, int other) {
        if (!areTwo(person, other)) {
            return no(1);
        }
        Person p = w.people.get(person);
        Person q = w.people.get(other);
        if (p.at != q.at || w.over(p)) {
            return no(7);
        }
        return ok(w.rope(p, q));
    }

    public int jump(int arch) {
        if (!isArch(arch)) {
            return no(1);
        }
        Arch a = w.arches.get(arch);
        if (!w.canJump(a)) {
            return no(7);
        }
        w.jump(a);
        return ok(a.holds);
    }

    public int home(int person) {
        if (!isPerson(person)) {
            return no(1);
        }
        Person p = w.people.get(person);
        int was = p.at;
        p.at = 0;
        return was == 0 ? no(7) : ok(was);
    }

    public int day(int days) {
        if (!in(days, 1, 99)) {
            return no(1);
        }
        if (w.day + days > 9999) {
            return no(4);
        }
        for (int i = 0; i < days; i++) {
            w.oneDay();
        }
        return ok(w.arches.stream().mapToInt(a -> a.moss).sum());
    }

    public boolean teach(int person, int what, int much) {
        if (!isPerson(person) || !in(what, 0, 2) || !in(much, what == 0 ? 1 : 0, what == 0 ? 40 : 9)) {
            return off(1);
        }
        Person p = w.people.get(person);
        if (what == 0) {
            p.weight = much;
        } else if (what == 1) {
            p.doubt = much;
        } else {
            p.love = much;
        }
        return ok();
    }

    public int come(int weight) {
        if (!in(weight, 1, 40)) {
            return no(1);
        }
        if (w.people.size() == 6) {
            return no(4);
        }
        Person p = new Person();
        p.weight = weight;
        w.people.add(p);
        return ok(w.people.size() - 1);
    }

    public int build(int holds, int toll) {
        if (!in(holds, 0, 60) || !in(toll, 0, 9)) {
            return no(1);
        }
        if (w.arches.size() == 9) {
            return no(4);
        }
        Arch a = new Arch();
        a.holds = holds;
        a.toll = toll;
        w.arches.add(a);
        return ok(w.arches.size() - 1);
    }

    public int sow(int size, int joy) {
        if (!in(size, 1, 30) || !in(joy, 0, 99)) {
            return no(1);
        }
        if (w.plants.size() == 8) {
            return no(4);
        }
        w.plants.add(new int[] {size, joy});
        return ok(w.plants.size() - 1);
    }

    public boolean rule(int what, int much) {
        if (!in(what, 3, 5) || !in(much, 0, new int[] {9, 5, 16}[what - 3])) {
            return off(1);
        }
        if (what == 3) {
            w.net = much;
        } else if (what == 4) {
            w.fog = much;
        } else {
            w.odds = much;
        }
        return ok();
    }

    public int strain(int person, int arch) {
        return isPerson(person) && isArch(arch) ? ok(w.strain(w.people.get(person), w.arches.get(arch))) : no(1);
    }

    public int strainOf(int person, int other, int arch) {
        if (!areTwo(person, other) || !isArch(arch)) {
            return no(1);
        }
        return ok(w.strain(w.people.get(person), w.people.get(other), w.arches.get(arch)));
    }

    public int reach(int person) {
        return reachIn(person, 0);
    }

    public int reachIn(int person, int days) {
        if (!isPerson(person) || !in(days, 0, 40)) {
            return no(1);
        }
        World later = w.copy();
        for (int i = 0; i < days; i++) {
            later.oneDay();
        }
        later.run(later.people.get(person));
        return ok(later.people.get(person).at);
    }

    private static int stopOf(World world, Person p) {
        for (int i = p.at; i < world.arches.size(); i++) {
            if (world.strain(p, world.arches.get(i)) > world.arches.get(i).holds) {
                return i;
            }
        }
        return -1;
    }

    public int stops(int person) {
        if (!isPerson(person)) {
            return no(1);
        }
        int stop = stopOf(w, w.people.get(person));
        return stop < 0 ? no(6) : ok(stop);
    }

    public int stopsBoth(int person, int other) {
        if (!areTwo(person, other)) {
            return no(1);
        }
        for (int i = 0; i < w.arches.size(); i++) {
            if (w.strain(w.people.get(person), w.people.get(other), w.arches.get(i)) > w.arches.get(i).holds) {
                return ok(i);
            }
        }
        return no(6);
    }

    public int pays(int person) {
        if (!isPerson(person)) {
            return no(1);
        }
        World later = w.copy();
        Person p = later.people.get(person);
        int ahead = p.paid;
        later.run(p);
        return ok(p.paid - ahead);
    }

    private int[] spanOf(Person p) {
        for (int length = w.arches.size(); length > 0; length--) {
            for (int from = 0; from + length <= w.arches.size(); from++) {
                if (w.arches.subList(from, from + length).stream().allMatch(a -> w.strain(p, a) <= a.holds)) {
                    return new int[] {from, length};
                }
            }
        }
        return new int[] {-1, 0};
    }

    public int span(int person) {
        return isPerson(person) ? ok(spanOf(w.people.get(person))[1]) : no(1);
    }

    public int spanFrom(int person) {
        if (!isPerson(person)) {
            return no(1);
        }
        int from = spanOf(w.people.get(person))[0];
        return from < 0 ? no(6) : ok(from);
    }

    public int weakest() {
        for (int many = 0; many <= w.people.size(); many++) {
            for (int i = 0; i < w.arches.size(); i++) {
                if (Integer.bitCount(bears(w.arches.get(i))) == many) {
                    return ok(i);
                }
            }
        }
        return no(6);
    }

    public int mossIn(int arch, int days) {
        if (!isArch(arch) || !in(days, 0, 40)) {
            return no(1);
        }
        World later = w.copy();
        for (int i = 0; i < days; i++) {
            later.oneDay();
        }
        return ok(later.arches.get(arch).moss);
    }

    // ---- who with whom: every way is looked at, as a row of mates (NONE of who stays away).

    private boolean well(int p, int q) {
        for (Arch a : w.arches) {
            Person x = w.people.get(p);
            Person y = w.people.get(q);
            if ((p == q ? w.strain(x, a) : w.strain(x, y, a)) > a.holds) {
                return false;
            }
        }
        return true;
    }

    private void ways(int person, int[] mates, int set, boolean mayStay, List<int[]> all) {
        if (person == w.people.size()) {
            all.add(mates.clone());
            return;
        }
        if ((set >> person & 1) == 0 || mates[person] != -1) {
            ways(person + 1, mates, set, mayStay, all);
            return;
        }
        if (mayStay) {
            ways(person + 1, mates, set, mayStay, all);
        }
        for (int m = w.people.size() - 1; m >= person; m--) {
            if ((set >> m & 1) == 1 && mates[m] == -1 && well(person, m)) {
                mates[person] = m;
                mates[m] = person;
                ways(person + 1, mates, set, mayStay, all);
                mates[person] = -1;
                mates[m] = -1;
            }
        }
    }

    private List<int[]> ways(int set, boolean mayStay) {
        int[] mates = new int[w.people.size()];
        Arrays.fill(mates, -1);
        List<int[]> all = new ArrayList<>();
        ways(0, mates, set, mayStay, all);
        return all;
    }

    private int price(int[] mates) {
        int sum = 0;
        for (int i = 0; i < mates.length; i++) {
            if (mates[i] >= i) {
                sum += w.arches.stream().mapToInt(a -> a.toll).sum();
            }
        }
        return sum;
    }

    public int most() {
        int most = 0;
        for (int[] way : ways((1 << w.people.size()) - 1, true)) {
            most = Math.max(most, (int) Arrays.stream(way).filter(m -> m >= 0).count());
        }
        return ok(most);
    }

    private int[] bestWay(int people) {
        int[] best = null;
        for (int[] way : ways(people, false)) {
            if (best == null || price(way) < price(best) || price(way) == price(best) && Arrays.compare(way, best) < 0) {
                best = way;
            }
        }
        return best;
    }

    public int cheapest(int people) {
        if (!isSet(people)) {
            return no(1);
        }
        int[] way = bestWay(people);
        return way == null ? no(6) : ok(price(way));
    }

    public int mate(int people, int person) {
        if (!isSet(people) || !isPerson(person) || (people >> person & 1) == 0) {
            return no(1);
        }
        int[] way = bestWay(people);
        return way == null ? no(6) : ok(way[person]);
    }

    /** By JUMPS one by one until they are borne, or no JUMP can be any more. */
    private int jumpsOn(int people, int arch) {
        World later = w.copy();
        Arch a = later.arches.get(arch);
        int jumps = 0;
        while (true) {
            boolean all = true;
            for (int i = 0; i < later.people.size(); i++) {
                all &= (people >> i & 1) == 0 || later.strain(later.people.get(i), a) <= a.holds;
            }
            if (all) {
                return jumps;
            }
            if (!later.canJump(a)) {
                return -1;
            }
            later.jump(a);
            jumps++;
        }
    }

    public int mends(int people) {
        if (!isSet(people)) {
            return no(1);
        }
        int sum = 0;
        for (int i = 0; i < w.arches.size(); i++) {
            int jumps = jumpsOn(people, i);
            if (jumps < 0) {
                return no(6);
            }
            sum += jumps;
        }
        return ok(sum);
    }

    public int mendsAt(int people, int arch) {
        if (!isSet(people) || !isArch(arch)) {
            return no(1);
        }
        return mends(people) < 0 ? no(6) : ok(jumpsOn(people, arch));
    }

    // ---- which doubt it was.

    private int reachBy(int person, int doubt, int fog) {
        World other = w.copy();
        other.fog = fog;
        Person p = other.people.get(person);
        p.doubt = doubt;
        p.at = 0;
        other.run(p);
        return p.at;
    }

    private List<Integer> fitting(int person, int tray, int n) {
        if (!isPerson(person) || !in(tray, 0, 3) || !in(n, 0, 20)) {
            status = 1;
            return null;
        }
        if (!trays.containsKey(tray)) {
            status = 2;
            return null;
        }
        long[] t = trays.get(tray);
        if (t.length < 2 * n) {
            status = 3;
            return null;
        }
        for (int i = 0; i < 2 * n; i++) {
            if (!in(t[i], 0, i % 2 == 0 ? 5 : w.arches.size())) {
                status = 5;
                return null;
            }
        }
        List<Integer> doubts = new ArrayList<>();
        for (int d = 0; d < 10; d++) {
            boolean all = true;
            for (int i = 0; i < n; i++) {
                all &= reachBy(person, d, (int) t[2 * i]) == t[2 * i + 1];
            }
            if (all) {
                doubts.add(d);
            }
        }
        return doubts;
    }

    public int fits(int person, int tray, int n) {
        List<Integer> doubts = fitting(person, tray, n);
        return doubts == null ? -1 : ok(doubts.size());
    }

    public int fitsAt(int person, int tray, int n, int k) {
        List<Integer> doubts = fitting(person, tray, n);
        if (k < 0) {
            return no(1);
        }
        if (doubts == null) {
            return -1;
        }
        return k < doubts.size() ? ok(doubts.get(k)) : no(6);
    }

    public int ask(int person, int tray, int n) {
        List<Integer> doubts = fitting(person, tray, n);
        if (doubts == null) {
            return -1;
        }
        if (doubts.size() < 2) {
            return no(6);
        }
        int best = -1;
        int fewest = 99;
        for (int fog = 0; fog <= 5; fog++) {
            Map<Integer, Integer> by = new HashMap<>();
            for (int d : doubts) {
                by.merge(reachBy(person, d, fog), 1, Integer::sum);
            }
            int most = by.values().stream().max(Integer::compare).get();
            if (most < fewest) {
                fewest = most;
                best = fog;
            }
        }
        return ok(best);
    }

    // ---- games, the garden, odds.

    /** What each of the three moves brings him who moves; null where it can't be. */
    private Integer[] outcomes(World g, int mover, int other, int turns) {
        Integer[] by = new Integer[3];
        Person p = g.people.get(mover);
        for (int move = 0; move < 3; move++) {
            World h = g.copy();
            Person q = h.people.get(mover);
            if (move < 2) {
                if (h.over(p)) {
                    continue;
                }
                Arch a = h.arches.get(p.at);
                if (move == 0 && h.strain(q, a) > a.holds || move == 1 && !h.canJump(a)) {
                    continue;
                }
                if (move == 0) {
                    q.at++;
                } else {
                    h.jump(a);
                }
            }
            by[move] = -value(h, other, mover, turns - 1);
        }
        return by;
    }

    private int value(World g, int mover, int other, int turns) {
        if (turns == 0) {
            return g.people.get(mover).at - g.people.get(other).at;
        }
        int best = Integer.MIN_VALUE;
        for (Integer v : outcomes(g, mover, other, turns)) {
            best = v == null ? best : Math.max(best, v);
        }
        return best;
    }

    public int game(int person, int other, int n) {
        return areTwo(person, other) && in(n, 0, 4) ? ok(value(w, person, other, n)) : no(1);
    }

    public int moveOf(int person, int other, int n) {
        if (!areTwo(person, other) || !in(n, 1, 4)) {
            return no(1);
        }
        Integer[] by = outcomes(w, person, other, n);
        int best = value(w, person, other, n);
        for (int move = 0; move < 3; move++) {
            if (by[move] != null && by[move] == best) {
                return ok(move);
            }
        }
        throw new IllegalStateException("one can always sit");
    }

    private int[] gardenOf(int n) {
        int[] best = {0, 0};
        for (int set = (1 << w.plants.size()) - 1; set >= 0; set--) {
            int size = 0;
            int joy = 0;
            for (int i = 0; i < w.plants.size(); i++) {
                size += (set >> i & 1) * w.plants.get(i)[0];
                joy += (set >> i & 1) * w.plants.get(i)[1];
            }
            if (size <= n && joy >= best[0]) {
                best = new int[] {joy, set};
            }
        }
        return best;
    }

    public int garden(int n) {
        return in(n, 0, 99) ? ok(gardenOf(n)[0]) : no(1);
    }

    public int gardenSet(int n) {
        return in(n, 0, 99) ? ok(gardenOf(n)[1]) : no(1);
    }

    private void oddsOf(Person p, int k) {
        BigInteger a = BigInteger.ONE;
        BigInteger b = BigInteger.ONE;
        for (int i = p.at; i < p.at + k; i++) {
            boolean goes = i < w.arches.size() && w.strain(p, w.arches.get(i)) <= w.arches.get(i).holds;
            a = a.multiply(BigInteger.valueOf(goes ? 16 - w.odds : 0));
            b = b.multiply(BigInteger.valueOf(16));
        }
        fraction(a, b);
    }

    public boolean chance(int person) {
        if (!isPerson(person)) {
            return off(1);
        }
        Person p = w.people.get(person);
        oddsOf(p, w.arches.size() - p.at);
        return ok();
    }

    public boolean hope(int person, int k) {
        if (!isPerson(person) || !in(k, 0, 9)) {
            return off(1);
        }
        oddsOf(w.people.get(person), k);
        return ok();
    }

    public int copyAt(int tray) {
        if (!in(tray, 0, 3)) {
            return no(1);
        }
        if (!trays.containsKey(tray)) {
            return no(2);
        }
        if (trays.get(tray).length < w.people.size()) {
            return no(3);
        }
        for (int i = 0; i < w.people.size(); i++) {
            trays.get(tray)[i] = w.people.get(i).at;
        }
        return ok(w.people.size());
    }

    // ---- DECADES, MARKS.

    public int live(int seed) {
        if (!in(seed, 0, 9999)) {
            return no(1);
        }
        if (decades == null) {
            return no(6);
        }
        int fell = w.people.stream().mapToInt(p -> p.fell).sum();
        int paid = w.people.stream().mapToInt(p -> p.paid).sum();
        Lives l = new Lives(w, seed);
        l.all(decades);
        lived = new int[] {l.missed, l.days, w.people.stream().mapToInt(p -> p.fell).sum() - fell,
            w.people.stream().mapToInt(p -> p.paid).sum() - paid, l.left};
        return ok(l.done);
    }

    public int lived(int what) {
        if (!in(what, 0, 4)) {
            return no(1);
        }
        return lived == null ? no(6) : ok(lived[what]);
    }

    public boolean mean(int seed, int many) {
        if (!in(seed, 0, 9999) || !in(many, 1, 20) || seed + many - 1 > 9999) {
            return off(1);
        }
        if (decades == null) {
            return off(6);
        }
        int sum = 0;
        for (int i = 0; i < many; i++) {
            Lives l = new Lives(w.copy(), seed + i);
            l.all(decades);
            sum += l.w.people.stream().mapToInt(p -> p.at).sum();
        }
        fraction(BigInteger.valueOf(sum), BigInteger.valueOf(many));
        return ok();
    }

    public int mark() {
        if (marks.size() == 3) {
            return no(4);
        }
        marks.push(new Object[] {w.copy(), decades});
        return ok(marks.size());
    }

    @SuppressWarnings("unchecked")
    public int undo() {
        if (marks.isEmpty()) {
            return no(6);
        }
        Object[] m = marks.pop();
        w = (World) m[0];
        decades = (List<Step>) m[1];
        return ok(marks.size());
    }
}
