import java.nio.charset.StandardCharsets;
import java.nio.file.Files;
import java.nio.file.Path;
import java.util.regex.Matcher;
import java.util.regex.Pattern;

/** What of ../shared/LANGUAGE.md can be seen in the source by its words; run from the project's folder. */
public final class RulesTest {
    private static final String[] NEVER = {"\\bthrow\\b", "\\bthrows\\b", "\\btry\\b", "\\bcatch\\s*\\(", "\\bsynchronized\\b",
        "\\bassert\\b", "->", "::", "\\binstanceof\\b", "\\bSystem\\.(?!arraycopy)", "\\bThread\\b", "\\bRandom\\b",
        "\\bfloat\\b", "\\bdouble\\b", "\\bequals\\b", "\\bhashCode\\b", "\\btoString\\b", "Exact\\s*\\(", "\\bpackage\\b",
        "\\bstatic\\s*\\{", "\\bprotected\\b", "\"\\s*\\+", "\\+\\s*\"", "\\bvar\\b", "\\byield\\b", "\\bnew\\s+\\w+\\([^;]*\\)\\s*\\{",
        "\\bInteger\\.(?!bitCount)", "\\bMath\\.(?!min|max|abs)", "\\bArrays\\.(?!fill|copyOf)", "[^\\x00-\\x7f]"};

    public static void main(String[] args) throws Exception {
        String source = Files.readString(Path.of("src/main/java/DoorFleet.java"), StandardCharsets.ISO_8859_1);
        String bare = source.replaceAll("(?s)/\\*.*?\\*/", "").replaceAll("//[^\n]*", "");
        for (String never : NEVER) {
            Matcher m = Pattern.compile(never).matcher(bare);
            Check.is("never " + never, !m.find());
        }
        Matcher imports = Pattern.compile("import ([^;]*);").matcher(bare);
        while (imports.find()) Check.is("import " + imports.group(1), imports.group(1).equals("java.util.Arrays"));
        Matcher classes = Pattern.compile("\\b(class|interface|enum|record) \\w").matcher(bare);
        int many = 0;
        while (classes.find()) many++;
        Check.is(many + " classes", many <= 12);
        methodsAreShort(source);
        Check.finish("RulesTest");
    }

    /** A method begins at four or eight blanks with a brace at its end, and ends at the brace below it. */
    private static void methodsAreShort(String source) {
        String[] lines = source.split("\n");
        for (int i = 0; i < lines.length; i++) {
            Matcher m = Pattern.compile("^( {4}| {8})(public|private)[^=;]*\\(([^)]*)\\) \\{$").matcher(lines[i]);
            if (!m.find()) continue;
            int end = i;
            while (!lines[end].equals(m.group(1) + "}")) end++;
            Check.is(lines[i].trim() + " has " + (end - i + 1) + " lines", end - i + 1 <= 60);
            Check.is(lines[i].trim() + ": parameters", m.group(3).split(",").length <= 7);
        }
    }
}
