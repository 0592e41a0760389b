import java.io.IOException;
import java.nio.file.Files;
import java.nio.file.Path;
import java.util.ArrayList;
import java.util.List;
import java.util.Set;
import java.util.TreeSet;
import java.util.regex.Matcher;
import java.util.regex.Pattern;

/** The rules of LANGUAGE.md that can be seen in the class's text, without its comments and written texts. */
public final class LanguageTest extends Calls {
    private static final Pattern METHOD = Pattern.compile(
            "^ +(?:(?:public|private|static|final) +)*[\\w\\[\\]]+ (\\w+)\\(([^)]*)\\)[^;=]*\\{$");
    private static final String[] OUTSIDE = {
        "->", "::", "\\bcatch\\b", "\\btry\\b", "\\bfinally\\b", "\\bsynchronized\\b", "\\bassert\\b", "\\bpackage\\b",
        "\\bprotected\\b", "\\bSystem\\.(?!arraycopy)", "\\bMath\\.\\w+Exact\\b", "\\bThread\\b", "\\bRandom\\b",
        "\\bgetMessage\\b", "\\bdouble\\b", "\\bfloat\\b", "\\bstatic *\\{", "\\w\\[\\] *\\[\\] *\\[\\]",
        "\\bArrays\\.(?!fill|copyOf)", "\\bwhile *\\( *true",
    };

    private final String[] lines;
    private final String code;

    private LanguageTest(String text) {
        String bare = text.replaceAll("(?s)/\\*.*?\\*/", "").replaceAll("//[^\n]*", "");
        code = bare.replaceAll("\"[^\"\n]*\"", "\"\"");
        lines = code.split("\n");
    }

    private static int matches(String pattern, String text) {
        Matcher m = Pattern.compile(pattern).matcher(text);
        int found = 0;
        while (m.find()) found++;
        return found;
    }

    private void nothingOutside() {
        for (String pattern : OUTSIDE) due("found of " + pattern, matches(pattern, code), 0);
        due("imports", matches("\\bimport ", code), matches("\\bimport java\\.util\\.Arrays;", code));
        due("written texts joined by +", matches("\"\" *\\+|\\+ *\"\"", code), 0);
    }

    /** Rule 6: which exceptions, and each made where it is thrown. */
    private void exceptions() {
        String thrown = "throw new (?:IllegalStateException|IllegalArgumentException|IndexOutOfBoundsException)\\(\"\"\\);";
        due("throws of another form", matches("\\bthrow\\b", code), matches(thrown, code));
    }

    /** Rule 5: what is static and no method or class is a constant. */
    private void staticFields() {
        for (String line : lines) {
            if (line.contains("static ") && line.contains("=")) {
                due("final: " + line.trim(), line.contains("static final ") ? 1 : 0, 1);
            }
        }
    }

    /** Rules 1 and 11: names, parameters, length, and how many classes. */
    private void methods() {
        Set<String> open = new TreeSet<>();
        List<String> closed = new ArrayList<>();
        for (int k = 0; k < lines.length; k++) {
            Matcher m = METHOD.matcher(lines[k]);
            if (!m.find()) continue;
            if (lines[k].contains("public ")) open.add(m.group(1));
            else closed.add(m.group(1));
            due("parameters of " + m.group(1), m.group(2).split(",").length <= 7 ? 1 : 0, 1);
            due("length of " + m.group(1), methodEnd(k) - k <= 60 ? 1 : 0, 1);
        }
        due("public methods, and the constructor", open.size(), 20);
        for (String name : closed) due(name + " is named as a public one", open.contains(name) ? 1 : 0, 0);
        due("methods of its own found", closed.size() > 40 ? 1 : 0, 1);
        due("classes", matches("\\bclass \\w+", code) <= 12 ? 1 : 0, 1);
    }

    private int methodEnd(int from) {
        String indent = lines[from].substring(0, lines[from].indexOf(lines[from].trim()));
        int k = from + 1;
        while (k < lines.length && !lines[k].equals(indent + "}")) k++;
        return k;
    }

    public static void main(String[] args) throws IOException {
        LanguageTest test = new LanguageTest(Files.readString(Path.of("src/main/java/MenuPlanner.java")));
        test.nothingOutside();
        test.exceptions();
        test.staticFields();
        test.methods();
        end("LanguageTest");
    }
}
