import java.io.IOException;
import java.nio.file.Files;
import java.nio.file.Path;
import java.util.List;
import java.util.regex.Matcher;
import java.util.regex.Pattern;

/** What can be seen of LANGUAGE.md's rules in the lines of the source; run from the project's root. */
public final class SourceTest {
    private static final Due DUE = new Due();
    private static final int LONGEST = 60;
    private static final String[] FORBIDDEN = {
        "\\bpackage\\b", "->", "::", "\\bcatch\\b", "\\bfinally\\b", "\\bsynchronized\\b", "\\bassert\\b",
        "\\bthrows? .*Error\\b", "\\bObject\\b", "\\bequals\\(", "\\bhashCode\\b", "\\bvar\\b",
        "\\bSystem\\.(?!arraycopy\\b)", "\\bThread\\b", "\\bRandom\\b", "\\bMath\\.\\w*(Exact|random)\\b",
        "\\b(Math|Integer|Long)\\.(?!(min|max|abs|compare|bitCount|floorDiv|floorMod)\\()",
        "\\bArrays\\.(?!fill\\()", "\\bordinal\\b", "[^\\x00-\\x7f]", "\" \\+|\\+ \"",
    };

    public static void main(String[] args) throws IOException {
        List<String> lines = Files.readAllLines(Path.of("src/main/java/PaintBank.java"));
        for (int i = 0; i < lines.size(); i++) {
            checkLine(i + 1, lines.get(i));
        }
        checkMethods(lines);
        checkNew(lines);
        DUE.end();
    }

    private static String code(String line) {
        int comment = line.indexOf("//");
        String trimmed = line.trim();
        if (trimmed.startsWith("*") || trimmed.startsWith("/*")) {
            return "";
        }
        return comment < 0 ? line : line.substring(0, comment);
    }

    private static void checkLine(int number, String line) {
        String code = code(line);
        for (String pattern : FORBIDDEN) {
            DUE.no("line " + number + " has " + pattern, Pattern.compile(pattern).matcher(code).find());
        }
        if (code.startsWith("import ")) {
            DUE.same("line " + number, code, "import java.util.Arrays;");
        }
        if (code.contains(" static ") && !code.contains("(")) {
            boolean fixed = code.contains(" final ") || code.contains(" enum ");
            DUE.yes("line " + number + ": a static field is final", fixed);
        }
        DUE.yes("line " + number + " is not longer than 100", line.length() <= 100);
    }

    private static void checkMethods(List<String> lines) {
        Pattern head = Pattern.compile("^ +(?!return|throw|new|else)[\\w<>\\[\\] ]+ \\w+\\((.*)\\).*\\{$");
        int start = -1;
        String indent = "";
        int methods = 0;
        for (int i = 0; i < lines.size(); i++) {
            String line = lines.get(i);
            Matcher matcher = head.matcher(line);
            if (matcher.matches()) {
                start = i;
                indent = line.substring(0, line.length() - line.stripLeading().length());
                methods++;
                DUE.yes("parameters of line " + (i + 1), matcher.group(1).split(",").length <= 7);
            } else if (start >= 0 && line.equals(indent + "}")) {
                DUE.yes("the method of line " + (start + 1) + " is short", i - start < LONGEST);
                start = -1;
            }
        }
        DUE.yes("methods were found", methods > 100);
    }

    /** Objects and arrays are made in constructors and fields alone, exceptions aside. */
    private static void checkNew(List<String> lines) {
        Pattern made = Pattern.compile("\\bnew (?!Illegal|Index)");
        for (int i = 0; i < lines.size(); i++) {
            String code = code(lines.get(i)).trim();
            if (made.matcher(code).find()) {
                boolean field = code.startsWith("private ") || code.startsWith("final ");
                boolean row = code.matches("(lanes\\[lane\\]|states\\[i\\]) = new (Row\\(\\)|Line\\(setup\\));");
                DUE.yes("line " + (i + 1) + " makes an object in a constructor only", field || row);
            }
        }
    }
}
