import java.lang.reflect.Field;
import java.lang.reflect.Method;
import java.lang.reflect.Modifier;
import java.nio.charset.StandardCharsets;
import java.nio.file.Files;
import java.nio.file.Paths;
import java.util.ArrayList;
import java.util.Arrays;
import java.util.List;
import java.util.Map;
import java.util.TreeMap;
import java.util.regex.Matcher;
import java.util.regex.Pattern;

/** Holds the source against those rules of LANGUAGE.md that can be seen from its text. */
public final class SourceRulesTest {
    private static final String[] BANNED = {
        "throw", "throws", "try", "catch", "synchronized", "assert", "->", "::", "Exception", "System.out",
        "Object ", "HashMap", "Math.\\w+Exact", "@Override", "\\+ \"", "\" \\+", "interface ", "volatile",
        "M(IN|AX)_VALUE",
    };
    private static final int MOST_METHOD_LINES = 60;
    private static final int MOST_PARAMETERS = 7;
    private static final int MOST_CALLS_DEEP = 8;
    private static final int MOST_CLASSES = 12;
    private static final int MOST_FIELDS = 20;

    private static int wrong = 0;

    private static void fail(String what) {
        wrong++;
        System.out.println(what);
    }

    public static void main(String[] args) throws Exception {
        String path = args.length > 0 ? args[0] : "src/main/java/CutStones.java";
        String source = new String(Files.readAllBytes(Paths.get(path)), StandardCharsets.ISO_8859_1);
        String code = source.replaceAll("(?s)/\\*.*?\\*/", "").replaceAll("//[^\n]*", "");
        banned(code);
        imports(code);
        methods(code);
        staticFields(code);
        face();
        System.out.println(wrong == 0 ? "the source keeps to the rules looked at" : wrong + " breaches");
        if (wrong != 0) {
            System.exit(1);
        }
    }

    private static void banned(String code) {
        for (String word : BANNED) {
            String pattern = Character.isLetter(word.charAt(0)) ? "\\b" + word : word;
            Matcher m = Pattern.compile(pattern).matcher(code);
            if (m.find()) {
                fail("banned: " + word + " at " + m.start());
            }
        }
        for (int i = 0; i < code.length(); i++) {
            if (code.charAt(i) > 126) {
                fail("a sign beyond 126 at " + i);
            }
        }
    }

    private static void imports(String code) {
        Matcher m = Pattern.compile("import ([^;]*);").matcher(code);
        while (m.find()) {
            if (!m.group(1).equals("java.util.Arrays")) {
                fail("import " + m.group(1));
            }
        }
        if (code.contains("package ")) {
            fail("a package line");
        }
    }

    /** Methods are those lines that end with ") {" at a depth of members. */
    private static void methods(String code) {
        String[] lines = code.split("\n");
        List<String> open = new ArrayList<>();
        List<String> shown = new ArrayList<>();
        Map<String, String> bodies = new TreeMap<>();
        for (int i = 0; i < lines.length; i++) {
            Matcher m = Pattern.compile("^( {4}| {8})(public |private |static |final )*[A-Za-z\\[\\]]+ (\\w+)\\(([^)]*)\\) \\{$")
                    .matcher(lines[i]);
            if (!m.find() || m.group(3).equals("if")) {
                continue;
            }
            int end = i;
            while (!lines[end].equals(m.group(1) + "}")) {
                end++;
            }
            if (end - i + 1 > MOST_METHOD_LINES) {
                fail(m.group(3) + " has " + (end - i + 1) + " lines");
            }
            String body = String.join("\n", Arrays.asList(lines).subList(i + 1, end));
            bodies.merge(m.group(3), body, String::concat);
            if (Pattern.compile("\\bnew\\b").matcher(body).find()) {
                fail(m.group(3) + " makes an object; what is made by a call is counted over all calls of a run");
            }
            boolean face = lines[i].contains("public ");
            (face ? shown : open).add(m.group(3));
            int parameters = m.group(4).isEmpty() ? 0 : m.group(4).split(",").length;
            if (parameters > MOST_PARAMETERS && !face) {
                fail(m.group(3) + " has " + parameters + " parameters");
            }
        }
        for (String name : open) {
            if (shown.contains(name)) {
                fail("a method bears a public one's name: " + name);
            }
        }
        for (String name : shown) {
            List<String> chain = deepest(name, bodies, new ArrayList<>());
            if (chain.size() > MOST_CALLS_DEEP) {
                fail("calls go too deep: " + chain);
            }
        }
    }

    /** The longest chain of calls from a method on in which none stands twice; methods of one name are taken as one. */
    private static List<String> deepest(String name, Map<String, String> bodies, List<String> ahead) {
        List<String> chain = new ArrayList<>(ahead);
        chain.add(name);
        List<String> longest = chain;
        for (String other : bodies.keySet()) {
            if (!chain.contains(other) && Pattern.compile("\\b" + other + "\\(").matcher(bodies.get(name)).find()) {
                List<String> found = deepest(other, bodies, chain);
                longest = found.size() > longest.size() ? found : longest;
            }
        }
        return longest;
    }

    private static void fieldsOf(Class<?> type) {
        int fields = 0;
        for (Field field : type.getDeclaredFields()) {
            fields += Modifier.isStatic(field.getModifiers()) ? 0 : 1;
        }
        if (fields > MOST_FIELDS) {
            fail(type + " has " + fields + " fields");
        }
    }

    private static void face() {
        int methods = 0;
        for (Method method : CutStones.class.getDeclaredMethods()) {
            if (Modifier.isPublic(method.getModifiers())) {
                methods++;
            } else if (!Modifier.isPrivate(method.getModifiers())) {
                fail("neither public nor private: " + method);
            }
        }
        if (methods != 27) {
            fail("public methods: " + methods);
        }
        for (Field field : CutStones.class.getDeclaredFields()) {
            if (!Modifier.isPrivate(field.getModifiers()) && !field.getName().equals("NONE")) {
                fail("a field that is not private: " + field);
            }
        }
        if (!Modifier.isFinal(CutStones.class.getModifiers()) || CutStones.class.getConstructors().length != 1) {
            fail("the class is to be final, with one public constructor");
        }
        fieldsOf(CutStones.class);
        if (CutStones.class.getDeclaredClasses().length + 1 > MOST_CLASSES) {
            fail("classes: " + (CutStones.class.getDeclaredClasses().length + 1));
        }
        for (Class<?> inside : CutStones.class.getDeclaredClasses()) {
            fieldsOf(inside);
            if (!Modifier.isStatic(inside.getModifiers()) || Modifier.isPublic(inside.getModifiers())) {
                fail("a class inside that is public or not static: " + inside);
            }
        }
    }

    private static void staticFields(String code) {
        for (String line : code.split("\n")) {
            boolean field = line.matches("^ +(public |private |final )*static [^(]*=.*");
            if (field && !line.contains("static final ")) {
                fail("a static field that is not final: " + line);
            }
        }
    }
}
