import java.nio.file.Files;
import java.nio.file.Path;
import java.util.ArrayList;
import java.util.Arrays;
import java.util.List;
import java.util.Set;
import java.util.TreeSet;
import java.util.regex.Matcher;
import java.util.regex.Pattern;

/** The rules of LANGUAGE.md that can be seen in the source text alone. */
public final class RulesTest {
    private static final Path SOURCE = Path.of("src/main/java/PullsToTheLeft.java");
    private static final String[] FORBIDDEN = {
        "\\b(throw|throws|try|catch|finally|synchronized|assert|volatile|transient|native|strictfp)\\b",
        "->", "::", "\\bExact\\b", "\\w+Exact\\s*\\(", "\\bvar\\b", "\\bpackage\\b", "\\bprotected\\b",
        "\\.(hashCode|toString|getClass|wait|notify|notifyAll)\\s*\\(", "\\bstatic\\s*\\{",
        "\\bnew\\s+\\w+\\s*\\([^)]*\\)\\s*\\{", "@\\w+", "\\bObject\\b", "\\bThread\\b",
        "\\bSystem\\.(?!arraycopy\\b)", "\\bArrays\\.(?!copyOf\\b|copyOfRange\\b|fill\\b)",
        "\\bInteger\\b", "\\bLong\\b", "\\bMath\\.(?!max\\b|min\\b|abs\\b|floorDiv\\b|floorMod\\b)", "\\[\\]\\s*\\[\\]", "[^\\x00-\\x7f]"
    };
    private static final Pattern METHOD =
            Pattern.compile("^ +((?:(?:public|private|static|final) )*)(?:[\\w\\[\\]]+ )?(\\w+)\\(([^)]*)\\) \\{$");

    public static void main(String[] args) throws Exception {
        Due due = new Due();
        List<String> lines = Files.readAllLines(SOURCE);
        List<String> code = withoutComments(lines);
        for (String rule : FORBIDDEN) due.same(rule, "[]", found(code, rule).toString());
        due.same("imports", "[import java.util.Arrays;]", found(code, "^import .*").toString());
        due.same("static and not final", "[]", found(code, "^ +(private )?static (?!final)[^(]*;$").toString());
        methods(due, code);
        due.end();
    }

    private static List<String> withoutComments(List<String> lines) {
        List<String> code = new ArrayList<>();
        for (String line : lines) {
            String kept = line.replaceAll("\"[^\"]*\"", "\"\"").replaceAll("//.*", "").replaceAll("/\\*\\*.*\\*/", "");
            code.add(kept);
        }
        return code;
    }

    private static List<String> found(List<String> code, String rule) {
        List<String> all = new ArrayList<>();
        Pattern p = Pattern.compile(rule);
        for (String line : code) {
            if (p.matcher(line).find()) all.add(line.trim());
        }
        return all;
    }

    private static void methods(Due due, List<String> code) {
        Set<String> open = new TreeSet<>();
        Set<String> hidden = new TreeSet<>();
        for (int i = 0; i < code.size(); i++) {
            Matcher m = METHOD.matcher(code.get(i));
            if (!m.matches() || Arrays.asList("if", "for", "while", "switch").contains(m.group(2))) continue;
            (m.group(1).contains("public") ? open : hidden).add(m.group(2));
            String name = m.group(2) + " in line " + (i + 1);
            int parameters = m.group(3).isEmpty() ? 0 : m.group(3).split(",").length;
            if (parameters > 7) due.same(name, 7, parameters);
            int length = 1;
            String end = code.get(i).replaceAll("\\S.*", "") + "}";
            while (!code.get(i + length).equals(end)) length++;
            if (length > 60) due.same(name, 60, length);
        }
        due.same("public methods and the constructor", 47, open.size());
        hidden.retainAll(open);
        due.same("private ones of the same name", "[]", hidden.toString());
    }
}
