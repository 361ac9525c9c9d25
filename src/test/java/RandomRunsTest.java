import java.lang.reflect.Method;
import java.nio.charset.StandardCharsets;
import java.util.ArrayList;
import java.util.Comparator;
import java.util.List;
import java.util.Random;

/** Promises 1 to 57: random runs of calls, in which the class and NaiveModel must always answer alike. */
public final class RandomRunsTest {
    private static final int RUNS = 3000;
    private static final int CALLS = 512;
    private static final String[] NAMES = {"a", "b", "cc", "dora", "eeeeeeee", "f", "g"};

    private final Random random;
    private final LeapArches x = new LeapArches();
    private final NaiveModel y = new NaiveModel();
    private final List<String> said = new ArrayList<>();
    private int calls = 0;
    private boolean alike = true;

    private RandomRunsTest(long seed) {
        random = new Random(seed);
    }

    public static void main(String[] args) throws Exception {
        int runs = args.length > 0 ? Integer.parseInt(args[0]) : RUNS;
        List<Method> face = new ArrayList<>();
        for (Method m : LeapArches.class.getDeclaredMethods()) {
            if (java.lang.reflect.Modifier.isPublic(m.getModifiers())) {
                face.add(m);
            }
        }
        face.sort(Comparator.comparing(Method::getName));
        for (int run = 0; run < runs; run++) {
            RandomRunsTest t = new RandomRunsTest(run);
            t.play(face);
            if (!t.alike) {
                System.out.println("run " + run + ":");
                t.said.forEach(System.out::println);
                System.exit(1);
            }
        }
        System.out.println("RandomRunsTest: " + runs + " runs alike");
    }

    private void play(List<Method> face) throws Exception {
        int small = random.nextInt(3);
        for (int tray = 0; tray < random.nextInt(5); tray++) {
            call(LeapArches.class.getMethod("tray", int.class, int.class, int.class), new Object[] {tray, random.nextInt(4), random.nextInt(61)});
        }
        giveViaduct(small);
        while (calls < CALLS - 60 && alike) {
            int kind = random.nextInt(100);
            if (kind < 1) {
                giveViaduct(small);
            } else if (kind < 4) {
                giveDecades();
            } else {
                Method m = face.get(random.nextInt(face.size()));
                if (m.getName().equals("feed") || m.getName().equals("viaduct") && random.nextInt(10) != 0) {
                    continue;
                }
                if (m.getName().equals("day") && random.nextInt(4) != 0) {
                    continue;
                }
                call(m, arguments(m));
            }
        }
    }

    // ---- calls.

    private void call(Method m, Object[] args) throws Exception {
        Object got = m.invoke(x, args);
        Object want = NaiveModel.class.getMethod(m.getName(), m.getParameterTypes()).invoke(y, args);
        calls++;
        said.add("  " + m.getName() + java.util.Arrays.toString(args) + " " + got + " / " + want
            + "   status " + x.status() + " / " + y.status());
        alike &= got.equals(want) && x.status() == y.status() && x.top() == y.top() && x.bottom() == y.bottom()
            && x.fault(0) == y.fault(0) && x.fault(1) == y.fault(1);
    }

    private Object[] arguments(Method m) {
        Object[] args = new Object[m.getParameterCount()];
        Class<?>[] types = m.getParameterTypes();
        for (int i = 0; i < args.length; i++) {
            args[i] = types[i] == long.class ? (Object) longArgument() : (Object) intArgument(m.getName(), i);
        }
        return args;
    }

    private long longArgument() {
        int kind = random.nextInt(10);
        return kind < 8 ? random.nextInt(7) - (kind == 0 ? 3 : 0) : kind == 8 ? random.nextLong() : random.nextInt(70000) - 35000;
    }

    private int intArgument(String call, int place) {
        int wild = random.nextInt(300);
        if (wild == 0) {
            return random.nextInt();
        }
        if (wild == 1) {
            return random.nextBoolean() ? Integer.MAX_VALUE : Integer.MIN_VALUE;
        }
        return near(greatest(call, place));
    }

    /** 0 to some number, now and then just outside. */
    private int near(int greatest) {
        int kind = random.nextInt(20);
        return kind == 0 ? -1 : kind == 1 ? greatest + 1 : kind == 2 ? greatest : random.nextInt(greatest + 1);
    }

    private int greatest(String call, int place) {
        switch (call) {
            case "tray":
                return new int[] {3, 3, random.nextInt(4) == 0 ? 60 : 12}[place];
            case "write", "read":
                return new int[] {3, random.nextInt(4) == 0 ? 60 : 6}[place];
            case "pour":
                return new int[] {3, 8, 3, 8, 5}[place];
            case "viaduct", "decades":
                return 3;
            case "fault":
                return 2;
            case "told":
                return 9;
            case "arch":
                return new int[] {arches(), 3}[place];
            case "person":
                return new int[] {people(), 5}[place];
            case "plant":
                return new int[] {Math.max(0, y.plants() - 1), 1}[place];
            case "jump":
                return arches();
            case "day":
                return random.nextInt(20) == 0 ? 99 : 4;
            case "teach":
                return place == 0 ? people() : place == 1 ? 2 : random.nextInt(3) == 0 ? 40 : 9;
            case "come":
                return 40;
            case "build":
                return place == 0 ? 60 : 9;
            case "sow":
                return place == 0 ? 30 : 99;
            case "rule":
                return place == 0 ? 5 : random.nextInt(3) == 0 ? 16 : 5;
            case "strain":
                return place == 0 ? people() : arches();
            case "strainOf":
                return place < 2 ? people() : arches();
            case "reachIn":
                return place == 0 ? people() : random.nextInt(3) == 0 ? 40 : 6;
            case "mossIn":
                return place == 0 ? arches() : random.nextInt(3) == 0 ? 40 : 6;
            case "cheapest", "mends":
                return (1 << y.people()) - 1;
            case "mate":
                return place == 0 ? (1 << y.people()) - 1 : people();
            case "mendsAt":
                return place == 0 ? (1 << y.people()) - 1 : arches();
            case "fits", "fitsAt", "ask":
                return new int[] {people(), 3, random.nextInt(5) == 0 ? 20 : 2, 9}[place];
            case "game", "moveOf":
                return place < 2 ? people() : 4;
            case "garden", "gardenSet":
                return 99;
            case "hope":
                return place == 0 ? people() : random.nextBoolean() ? 9 : 3;
            case "copyAt":
                return 3;
            case "live", "mean":
                return place == 0 ? 9999 : 20;
            case "lived":
                return 4;
            default:
                return people();
        }
    }

    /** The last one's number, 0 without any. */
    private int arches() {
        return Math.max(0, y.arches() - 1);
    }

    private int people() {
        return Math.max(0, y.people() - 1);
    }

    // ---- texts.

    private void giveViaduct(int small) throws Exception {
        StringBuilder s = new StringBuilder();
        int arches = small == 0 ? 9 : random.nextInt(10);
        int holds = 20 + random.nextInt(40);
        for (String word : new String[] {"net", "fog", "odds"}) {
            if (random.nextInt(3) > 0) {
                s.append(word).append(' ').append(random.nextInt(word.equals("fog") ? 4 : word.equals("net") ? 8 : 17)).append(';');
            }
        }
        for (int i = 0; i < arches; i++) {
            s.append("arch holds ").append(Math.min(60, holds - 10 + random.nextInt(20)));
            if (random.nextInt(3) == 0) {
                s.append(" moss ").append(random.nextInt(random.nextBoolean() ? 10 : 3));
            }
            if (random.nextInt(3) == 0) {
                s.append(" toll ").append(random.nextInt(10));
            }
            s.append(";");
            if (random.nextInt(5) == 0) {
                s.append(random.nextBoolean() ? "\n" : "  ");
            }
        }
        int people = random.nextInt(7);
        for (int i = 0; i < people; i++) {
            s.append("person ").append(NAMES[i]).append(" weight ").append(1 + random.nextInt(random.nextInt(4) == 0 ? 40 : holds / 2));
            if (random.nextInt(3) > 0) {
                s.append(" doubt ").append(random.nextInt(random.nextBoolean() ? 10 : 4));
            }
            if (random.nextInt(3) == 0) {
                s.append(" love ").append(random.nextInt(10));
            }
            if (random.nextInt(3) == 0) {
                s.append(" at ").append(random.nextInt(arches + 1));
            }
            s.append(";\n");
        }
        int plants = random.nextInt(9);
        for (int i = 0; i < plants; i++) {
            s.append("plant ").append(1 + random.nextInt(30)).append(" joy ").append(random.nextInt(random.nextInt(3) == 0 ? 100 : 6)).append(";");
        }
        give("viaduct", spoiled(s.toString()), 900);
    }

    private void giveDecades() throws Exception {
        StringBuilder s = new StringBuilder();
        int depth = 0;
        int many = random.nextInt(20) == 0 ? 34 : random.nextInt(16);
        for (int i = 0; i < many; i++) {
            int kind = random.nextInt(13);
            if (kind == 12 && depth > 0) {
                s.append("end;");
                depth--;
            } else if (kind == 11 && random.nextInt(3) == 0) {
                s.append("stop;");
            } else if (kind >= 9 && depth < (random.nextInt(9) == 0 ? 4 : 3)) {
                s.append(nesting()).append(';');
                depth++;
            } else {
                s.append(plain(random.nextInt(7))).append(';');
            }
        }
        while (depth > 0) {
            s.append("end ;");
            depth--;
        }
        give("decades", spoiled(s.toString()), 300);
    }

    private String nesting() {
        String sign = new String[] {"<", ">", " = "}[random.nextInt(3)];
        switch (random.nextInt(5)) {
            case 0:
                return "when over " + name();
            case 1:
                return "when at " + name() + sign + random.nextInt(10);
            case 2:
                return "when moss " + random.nextInt(arches() + 1) + sign + random.nextInt(10);
            default:
                return "loop " + (1 + random.nextInt(random.nextInt(3) == 0 ? 99 : 5));
        }
    }

    private String plain(int kind) {
        switch (kind) {
            case 0:
                return "run " + name();
            case 1:
                return "rope " + name() + " " + name();
            case 2:
                return "jump " + random.nextInt(arches() + 1);
            case 3:
                return "home " + name();
            case 4:
                return "day " + (1 + random.nextInt(random.nextInt(4) == 0 ? 40 : 3));
            case 5:
                return "fog " + random.nextInt(6);
            default:
                return "any";
        }
    }

    private String name() {
        List<String> known = y.names();
        return known.isEmpty() || random.nextInt(60) == 0 ? NAMES[random.nextInt(NAMES.length)] : known.get(random.nextInt(known.size()));
    }

    /** Most texts stay as they are; others lose, gain or change a byte or a TOKEN. */
    private String spoiled(String text) {
        if (random.nextInt(3) > 0 || text.isEmpty()) {
            return text;
        }
        String[] tokens = {"net", "fog 1;", "person", "arch", ";", "<", "=", "12345", "99", "0", "10", "end;", "end", "stop;", "loop 2;",
            "at", "moss 3", "toll", "abcdefghi", "x", "@", "Z", "\t", "joy", "when over a;", "love 2", "plant 3 joy 3;", "0004", "person a weight 3;", "person b weight 40 doubt 9 love 9 at 1;", "arch holds 60 moss 9 toll 9;",
            "odds 16;", "net 0;", "\u00e9"};
        int at = random.nextInt(text.length() + 1);
        int cut = random.nextInt(4) == 0 ? 0 : random.nextInt(4);
        String head = text.substring(0, at);
        String tail = text.substring(Math.min(text.length(), at + cut));
        switch (random.nextInt(4)) {
            case 0:
                return head;
            case 1:
                return head + tail;
            default:
                return head + " " + tokens[random.nextInt(tokens.length)] + " " + tail;
        }
    }

    private void give(String call, String text, int greatest) throws Exception {
        byte[] bytes = text.getBytes(StandardCharsets.ISO_8859_1);
        int length = Math.min(bytes.length, greatest);
        Method feed = LeapArches.class.getMethod("feed", int.class, int.class, int.class, int.class, int.class);
        for (int i = 0; i < length; i += 20) {
            call(feed, new Object[] {Check.four(bytes, i), Check.four(bytes, i + 4), Check.four(bytes, i + 8),
                Check.four(bytes, i + 12), Check.four(bytes, i + 16)});
        }
        said.add("  text: " + text);
        call(LeapArches.class.getMethod(call, int.class), new Object[] {length});
    }
}
