import java.io.IOException;
import java.nio.file.Files;
import java.nio.file.Path;
import java.util.LinkedHashMap;
import java.util.LinkedHashSet;
import java.util.Map;
import java.util.Set;
import java.util.TreeMap;
import java.util.regex.Matcher;
import java.util.regex.Pattern;

/** The document's face and the rules of LANGUAGE.md, in the program's text; FaceTest sees by reflection. */
public final class LanguageTest {
    private static final Path PROGRAM = Path.of("src/main/java/ParkOffice.java");
    private static final Path DOCUMENT = Path.of("..", "shared", "DOC.md");
    private static final int MOST_LINES = 60;
    private static final int MOST_PARAMETERS = 7;
    private static final int DEEPEST = 8;
    private static final Set<String> LIBRARY = Set.of("String", "StringBuilder", "Integer", "Long", "Math",
            "ArrayList", "List", "Arrays", "System", "Iterator", "Iterable", "Comparable",
            "IllegalStateException", "IllegalArgumentException");
    private static final Set<String> STATIC_CALLS = Set.of("System.arraycopy", "Arrays.copyOf",
            "Arrays.copyOfRange", "Arrays.fill", "Math.min", "Math.max", "Math.abs", "Math.floorDiv",
            "Math.floorMod", "Integer.compare", "Integer.bitCount", "Long.compare", "Long.bitCount", "List.of");
    private static final Set<String> NO_METHODS = Set.of("if", "for", "while", "switch", "catch", "return", "new");
    private static final Pattern METHOD = Pattern.compile(
            "(?m)^ +(?:[\\w\\[\\]<>]+ +)*(\\w+)\\(([^()]*)\\)\\s*(?:throws [\\w,\\s]+?)?\\{");

    private static String code = "";
    private static final Map<String, String> BODIES = new LinkedHashMap<>();
    private static final Map<String, Integer> DEPTHS = new TreeMap<>();

    public static void main(String[] args) throws IOException {
        String text = Files.readString(PROGRAM);
        code = withoutComments(text);
        oneFile();
        faceAsWritten();
        noForm();
        names();
        staticCalls();
        thrown();
        methods();
        depth();
        Check.finish();
    }

    /** Comments and texts become spaces, line ends stay, so that lines can still be counted. */
    private static String withoutComments(String text) {
        Matcher m = Pattern.compile("(?s)/\\*.*?\\*/|//[^\n]*|\"(?:\\\\.|[^\"\\\\])*\"").matcher(text);
        return m.replaceAll(r -> r.group().replaceAll("[^\n]", " "));
    }

    private static int count(String pattern) {
        return (int) Pattern.compile(pattern).matcher(code).results().count();
    }

    private static void oneFile() {
        Check.is("the program's start: no package line", 0, count("\\bpackage\\b"));
        Check.is("the program's start: one public class", 1, count("\\bpublic (final )?class\\b"));
        Check.is("rule 4: imports", count("\\bimport\\b"),
                count("\\bimport java\\.util\\.(Arrays|ArrayList|List|Iterator);"));
    }

    /** Each line of the document's face stands in the program, names of the parameters and all. */
    private static void faceAsWritten() throws IOException {
        if (!Files.exists(DOCUMENT)) {
            System.out.println("there is no " + DOCUMENT + " here to compare the face with");
            return;
        }
        String face = Files.readString(DOCUMENT).split("```")[1];
        String program = code.replaceAll("\\s+", " ");
        for (String line : face.lines().filter(l -> l.startsWith("    ") || l.startsWith("public")).toList()) {
            String due = line.strip().replaceFirst("(?<=[)\\w]);$", line.contains("=") ? ";" : " {");
            Check.yes("rule 1: " + due, program.contains(due));
        }
    }

    private static void noForm() {
        for (String form : new String[] {"->", "::", "@", "\\bfinally\\b", "\\btry\\b", "\\bsynchronized\\b",
                "\\bassert\\b", "\\bvolatile\\b", "\\bnative\\b", "\\bdouble\\b", "\\bfloat\\b", "\\bvar\\b",
                "\\.equals\\(", "\\bhashCode\\b", "\\btoString\\b", "\\bgetMessage\\b", "Exact\\b",
                "\\bstatic \\{", "\\binstanceof\\b"}) {
            Check.is("rules 2, 3, 6: " + form, 0, count(form));
        }
        Check.is("rule 3: more than two dimensions", 0, count("\\[[^\\]]*\\]\\[[^\\]]*\\]\\["));
        Check.is("rule 9: loops whose lines show no end", 0, count("while \\(true\\)|for \\(;;\\)"));
    }

    /** A name with a great and a small letter is a class: one of the file or of the library's part. */
    private static void names() {
        Set<String> own = new LinkedHashSet<>();
        Matcher made = Pattern.compile("\\b(?:class|enum|record|interface) (\\w+)").matcher(code);
        while (made.find()) {
            own.add(made.group(1));
        }
        Check.yes("rule 11: some twelve classes, " + own, own.size() <= 12);
        Matcher used = Pattern.compile("\\b[A-Z]\\w*[a-z]\\w*").matcher(code);
        while (used.find()) {
            Check.yes("rule 4: " + used.group(), own.contains(used.group()) || LIBRARY.contains(used.group()));
        }
    }

    private static void staticCalls() {
        Matcher m = Pattern.compile("\\b(?:System|Arrays|Math|Integer|Long|List)\\.[a-z]\\w*").matcher(code);
        while (m.find()) {
            // The import line has the class's name behind its package, so it is not seen here.
            Check.yes("rule 4: " + m.group(), STATIC_CALLS.contains(m.group()));
        }
    }

    private static void thrown() {
        int forms = count("throw new (IllegalStateException|IllegalArgumentException)\\( *\\);");
        Check.is("rule 6: throw new E() alone", count("\\bthrow\\b"), forms);
        Check.yes("rule 6: there are some", forms > 0);
    }

    private static void methods() {
        Matcher m = METHOD.matcher(code);
        while (m.find()) {
            if (NO_METHODS.contains(m.group(1))) {
                continue;
            }
            String name = m.group(1);
            String body = bodyFrom(m.end());
            long lines = (m.group() + body).strip().lines().count();
            Check.yes("rule 11: lines of " + name + ", " + lines, lines <= MOST_LINES);
            Check.yes("rule 11: parameters of " + name, m.group(2).split(",").length <= MOST_PARAMETERS);
            boolean isConstructor = Character.isUpperCase(name.charAt(0));
            Check.no("rule 6: a constructor throws: " + name, isConstructor && body.contains("throw "));
            // Methods of one name are taken as one: so the depth is never seen too small.
            BODIES.merge(isConstructor ? "new " + name : name, body, String::concat);
        }
        Check.yes("the methods were found: " + BODIES.size(), BODIES.size() > 60 && BODIES.containsKey("takings"));
    }

    private static String bodyFrom(int start) {
        int open = 1;
        int at = start;
        while (open > 0 && at < code.length()) {
            open += code.charAt(at) == '{' ? 1 : code.charAt(at) == '}' ? -1 : 0;
            at++;
        }
        return code.substring(start, at);
    }

    private static void depth() {
        int deepest = 0;
        for (String name : BODIES.keySet()) {
            deepest = Math.max(deepest, depthOf(name, new LinkedHashSet<>()));
        }
        Check.yes("rule 11: calls go " + deepest + " deep", deepest <= DEEPEST);
        Check.yes("rule 11: calls were found", deepest > 1);
    }

    private static int depthOf(String name, Set<String> above) {
        if (!above.add(name)) {
            Check.yes("rule 8: no recursion is needed: " + above, false);
            return 0;
        }
        if (!DEPTHS.containsKey(name)) {
            int most = 0;
            Matcher m = Pattern.compile("(?<!Arrays\\.)\\b((?:new )?\\w+)\\(").matcher(BODIES.get(name));
            while (m.find()) {
                if (BODIES.containsKey(m.group(1))) {
                    most = Math.max(most, depthOf(m.group(1), above));
                }
            }
            DEPTHS.put(name, most + 1);
        }
        above.remove(name);
        return DEPTHS.get(name);
    }
}
