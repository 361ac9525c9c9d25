import java.nio.file.Files;
import java.nio.file.Path;
import java.util.ArrayList;
import java.util.HashMap;
import java.util.HashSet;
import java.util.List;
import java.util.Map;
import java.util.Set;
import java.util.regex.Matcher;
import java.util.regex.Pattern;

/** The rules of LANGUAGE.md that can be looked up in the source, by its own way of being written. */
public final class LanguageTest {
    private static final Path SOURCE = Path.of("src/main/java/LeapArches.java");
    private static final Pattern METHOD = Pattern.compile(
        "^( {4}| {8})((?:public |private |static )*)([\\w\\[\\]]+ )?(\\w+)\\(([^)]*)\\) \\{$");

    private record Body(String owner, String name, boolean isPublic, boolean isConstructor, int parameters, List<String> lines) { }

    public static void main(String[] args) throws Exception {
        Check c = new Check("LanguageTest");
        List<String> lines = withoutComments(Files.readAllLines(SOURCE));
        List<Body> bodies = bodies(lines);
        forbiddenWords(c, lines);
        staticsAreConstants(c, lines);
        shortMethods(c, bodies);
        namesOfPrivateMethods(c, bodies);
        newOnlyInConstructors(c, bodies);
        fewClassesAndFields(c, lines);
        shallowCalls(c, bodies);
        c.end();
    }

    private static List<String> withoutComments(List<String> lines) {
        List<String> bare = new ArrayList<>();
        for (String line : lines) {
            String code = line.replaceAll("\"[^\"]*\"", "\"\"").replaceAll("/\\*\\*.*\\*/", "").replaceAll("//.*", "");
            bare.add(code.stripTrailing());
        }
        return bare;
    }

    private static void forbiddenWords(Check c, List<String> lines) {
        Pattern no = Pattern.compile("\\b(throw|throws|try|catch|finally|synchronized|assert|volatile|transient|native|protected|double|float|Object"
            + "|System\\.(?!arraycopy)\\w+|equals|hashCode|toString|Random|Thread)\\b|->|::|while \\(true\\)|for \\(;;|\\?\\? |@\\w+|Exact\\(");
        for (int i = 0; i < lines.size(); i++) {
            c.due("line " + (i + 1) + " is within the rules: " + lines.get(i).strip(), no.matcher(lines.get(i)).find(), false);
            if (lines.get(i).startsWith("import ")) {
                c.due("an import of Arrays alone", lines.get(i).equals("import java.util.Arrays;"), true);
            }
            c.due("no package", lines.get(i).startsWith("package "), false);
        }
    }

    private static void staticsAreConstants(Check c, List<String> lines) {
        Pattern field = Pattern.compile("\\bstatic\\b[^({]*(=|;)");
        for (String line : lines) {
            if (field.matcher(line).find() && !line.contains("(")) {
                c.due("static fields are constants: " + line, line.matches(".*static final (int|String) [A-Z_0-9]+ = .*;"), true);
            }
        }
    }

    private static List<Body> bodies(List<String> lines) {
        List<Body> all = new ArrayList<>();
        String owner = "LeapArches";
        for (int i = 0; i < lines.size(); i++) {
            Matcher nested = Pattern.compile("^    private static final class (\\w+) \\{$").matcher(lines.get(i));
            if (nested.find()) {
                owner = nested.group(1);
            }
            Matcher m = METHOD.matcher(lines.get(i));
            if (m.find()) {
                List<String> body = new ArrayList<>();
                for (int k = i; !lines.get(k).equals(m.group(1) + "}"); k++) {
                    body.add(lines.get(k));
                }
                int parameters = m.group(5).isEmpty() ? 0 : m.group(5).split(",").length;
                boolean outer = m.group(1).length() == 4;
                all.add(new Body(outer ? "LeapArches" : owner, m.group(4), m.group(2).contains("public"), m.group(3) == null, parameters, body));
            }
        }
        return all;
    }

    private static void shortMethods(Check c, List<Body> bodies) {
        c.due("the methods are found", bodies.size() > 100, true);
        for (Body b : bodies) {
            c.due(b.name() + " takes at most seven", b.parameters() <= 7, true);
            c.due(b.name() + " has at most sixty lines", b.lines().size() <= 60, true);
        }
    }

    private static void namesOfPrivateMethods(Check c, List<Body> bodies) {
        Set<String> face = new HashSet<>();
        bodies.stream().filter(Body::isPublic).forEach(b -> face.add(b.name()));
        for (Body b : bodies) {
            c.due(b.owner() + "." + b.name() + " bears no name of the face", !b.isPublic() && face.contains(b.name()), false);
        }
    }

    /** So that the room of a run is spent when an object is made, and never by a call. */
    private static void newOnlyInConstructors(Check c, List<Body> bodies) {
        for (Body b : bodies) {
            boolean makes = String.join("\n", b.lines()).matches("(?s).*\\bnew\\b.*");
            c.due(b.owner() + "." + b.name() + " makes nothing", makes && !b.isConstructor(), false);
        }
    }

    private static void fewClassesAndFields(Check c, List<String> lines) {
        int classes = 0;
        int fields = 0;
        for (String line : lines) {
            if (line.matches(".*\\bclass \\w+ \\{")) {
                classes++;
                fields = 0;
            }
            if (line.matches(" {4,8}(private )?(final )?[\\w\\[\\]]+ \\w+;") && !line.contains("return")) {
                fields++;
            }
            c.due("some twenty fields: " + line, fields <= 21, true);
        }
        c.due("some twelve classes", classes <= 12, true);
    }

    /** By names alone, so rather too deep than too shallow; the game's two methods call one another. */
    private static void shallowCalls(Check c, List<Body> bodies) {
        Map<String, Set<String>> calls = new HashMap<>();
        bodies.forEach(b -> calls.put(b.name(), new HashSet<>()));
        for (Body b : bodies) {
            Matcher m = Pattern.compile("(\\bnew )?\\b(\\w+)\\(").matcher(String.join("\n", b.lines().subList(1, b.lines().size())));
            while (m.find()) {
                if (calls.containsKey(m.group(2))) {
                    calls.get(b.name()).add(m.group(2));
                }
            }
        }
        calls.get("worthBehind").remove("worth");
        for (Body b : bodies) {
            if (b.isPublic()) {
                int depth = depth(b.name(), calls, 0);
                c.due(b.name() + " goes at most eight deep, it goes " + depth, depth <= 8, true);
            }
        }
    }

    private static int depth(String name, Map<String, Set<String>> calls, int ahead) {
        if (ahead > 30) {
            throw new IllegalStateException("recursion by " + name);
        }
        int deepest = 0;
        for (String called : calls.get(name)) {
            deepest = Math.max(deepest, depth(called, calls, ahead + 1));
        }
        return deepest + 1;
    }
}
