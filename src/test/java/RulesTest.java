import java.lang.reflect.Field;
import java.lang.reflect.Modifier;
import java.nio.charset.StandardCharsets;
import java.nio.file.Files;
import java.nio.file.Path;
import java.util.HashMap;
import java.util.HashSet;
import java.util.Map;
import java.util.Set;
import java.util.TreeSet;
import java.util.regex.Matcher;
import java.util.regex.Pattern;

/** What of ../shared/LANGUAGE.md can be seen in the source by its words; run from the project's folder. */
public final class RulesTest {
    private static final String[] NEVER = {"\\bthrow\\b", "\\bthrows\\b", "\\btry\\b", "\\bcatch\\s*\\(", "\\bsynchronized\\b",
        "\\bassert\\b", "->", "::", "\\binstanceof\\b", "\\bSystem\\.(?!arraycopy)", "\\bThread\\b", "\\bRandom\\b",
        "\\bfloat\\b", "\\bdouble\\b", "\\bequals\\b", "\\bhashCode\\b", "\\btoString\\b", "Exact\\s*\\(", "\\bpackage\\b",
        "\\bstatic\\s*\\{", "\\bprotected\\b", "\"\\s*\\+", "\\+\\s*\"", "\\bvar\\b", "\\byield\\b", "\\bnew\\s+\\w+\\([^;]*\\)\\s*\\{",
        "\\bInteger\\.(?!bitCount)", "\\bMath\\.(?!min|max|abs)", "\\bArrays\\.(?!fill|copyOf)", "[^\\x00-\\x7f]",
        // Rule 7: what an array of objects holds may be null, so it is never used straight from there.
        "\\]\\s*\\."};
    private static final Pattern METHOD =
        Pattern.compile("^( {4}| {8})(public|private)( static)? [^=;(]*?(\\w+)\\(([^)]*)\\) \\{$");

    /** The methods' bodies by their names (those of one name together). */
    private static final Map<String, String> BODIES = new HashMap<>();
    private static final Map<String, Set<String>> CALLS = new HashMap<>();

    public static void main(String[] args) throws Exception {
        String source = Files.readString(Path.of("src/main/java/DoorFleet.java"), StandardCharsets.ISO_8859_1);
        String bare = source.replaceAll("(?s)/\\*.*?\\*/", "").replaceAll("//[^\n]*", "");
        for (String never : NEVER) {
            Matcher m = Pattern.compile(never).matcher(bare);
            Check.is("never " + never, !m.find());
        }
        Matcher imports = Pattern.compile("import ([^;]*);").matcher(bare);
        while (imports.find()) Check.is("import " + imports.group(1), imports.group(1).equals("java.util.Arrays"));
        Matcher classes = Pattern.compile("\\b(class|interface|enum|record) \\w").matcher(bare);
        int many = 0;
        while (classes.find()) many++;
        Check.is(many + " classes", many <= 12);
        methodsAreShort(bare);
        callsGoNotDeep();
        fieldsAreFew(DoorFleet.class);
        for (Class<?> c : DoorFleet.class.getDeclaredClasses()) fieldsAreFew(c);
        Check.finish("RulesTest");
    }

    /** A method begins at four or eight blanks with a brace at its end, and ends at the brace below it. */
    private static void methodsAreShort(String source) {
        String[] lines = source.split("\n");
        for (int i = 0; i < lines.length; i++) {
            Matcher m = METHOD.matcher(lines[i]);
            if (!m.find()) continue;
            int end = i;
            StringBuilder body = new StringBuilder();
            while (!lines[end].equals(m.group(1) + "}")) {
                end++;
                body.append(lines[end]).append('\n');
            }
            String name = m.group(4);
            Check.is(lines[i].trim() + " has " + (end - i + 1) + " lines", end - i + 1 <= 60);
            Check.is(lines[i].trim() + ": parameters", m.group(5).split(",").length <= 7);
            // Rule 8: a method that calls itself is private and static.
            boolean callsItself = Pattern.compile("(?<![.\\w])" + name + "\\(").matcher(body).find();
            boolean may = m.group(2).equals("private") && m.group(3) != null;
            Check.is(name + " calls itself", may || !callsItself);
            BODIES.merge(name, body.toString(), String::concat);
        }
    }

    /** Rule 11: no chain of calls goes through more than eight methods, recursion through each once. */
    private static void callsGoNotDeep() {
        for (String name : BODIES.keySet()) {
            Set<String> called = new TreeSet<>();
            Matcher m = Pattern.compile("\\b(\\w+)\\(").matcher(BODIES.get(name));
            while (m.find()) if (BODIES.containsKey(m.group(1)) && !m.group(1).equals(name)) called.add(m.group(1));
            CALLS.put(name, called);
        }
        Check.is("methods seen: " + BODIES.size(), BODIES.size() > 100);
        for (String name : BODIES.keySet()) {
            int deep = deep(name, new HashSet<>());
            Check.is("calls from " + name + " go through " + deep + " methods", deep <= 8);
        }
    }

    private static int deep(String name, Set<String> open) {
        int most = 0;
        open.add(name);
        for (String next : CALLS.get(name)) if (!open.contains(next)) most = Math.max(most, deep(next, open));
        open.remove(name);
        return most + 1;
    }

    private static void fieldsAreFew(Class<?> kind) {
        int fields = 0;
        for (Field f : kind.getDeclaredFields()) if (!Modifier.isStatic(f.getModifiers())) fields++;
        Check.is(kind.getName() + " has " + fields + " fields", fields <= 20);
    }
}
