import java.io.IOException;
import java.nio.file.Files;
import java.nio.file.Path;
import java.util.regex.Matcher;
import java.util.regex.Pattern;

/** Rules of LANGUAGE.md that can be seen in the text of the program; run in the project's directory. */
public final class RulesTest {
    private static final Check check = new Check();
    private static final String[] WORDS = {
        "throw", "throws", "try", "catch", "finally", "synchronized", "assert", "package", "protected",
        "volatile", "transient", "native", "Object", "Exception", "Thread", "Random", "System\\.(?!arraycopy)",
        "equals", "hashCode", "double", "float", "var", "lambda", "Exact",
    };
    private static final String[] SIGNS = {"->", "::", "static \\{", "\\bwhile \\(true\\)", "for \\(;;", "@"};
    private static final String[] FACE = {
        "add", "word", "patch", "clear", "size", "decode", "planes", "width", "height", "depth",
        "sample", "block", "blocks", "symbols", "taken", "table",
    };

    public static void main(String[] args) throws IOException {
        String text = Files.readString(Path.of("src/main/java/StillPicture.java"));
        String code = text.replaceAll("(?s)/\\*.*?\\*/", "").replaceAll("//.*", "");
        for (String word : WORDS) {
            check.due("uses of " + word, 0, count(code, "\\b" + word + (word.endsWith(")") ? "" : "\\b")));
        }
        for (String sign : SIGNS) {
            check.due("uses of " + sign, 0, count(code, sign));
        }
        check.due("imports but java.util.Arrays", 0, count(code, "import (?!java\\.util\\.Arrays;)"));
        check.due("classes", true, count(code, "\\bclass \\w+ \\{") <= 12);
        check.due("static fields that are not final", 0, count(code, "static (?!final|int |boolean )\\w+ \\w+ [=;]"));
        for (String name : FACE) {
            check.due("methods named " + name, 1,
                count(code, "(?m)^ +(public |private |static |final )*\\w+(\\[\\])? " + name + "\\([^)]*\\) \\{"));
        }
        methods(code);
        check.end();
    }

    private static void methods(String code) {
        Matcher heads = Pattern.compile("(?m)^( +)(?:(?:public|private|static) )*[\\w\\[\\]]+ ?\\w*\\(([^)]*)\\) \\{$").matcher(code);
        while (heads.find()) {
            String head = heads.group().trim();
            if (head.startsWith("if") || head.startsWith("for") || head.startsWith("while") || head.startsWith("switch")) {
                continue;
            }
            String rest = code.substring(heads.end());
            int end = rest.indexOf("\n" + heads.group(1) + "}");
            check.due("length of " + head, true, count(rest.substring(0, end), "\n") <= 60);
            check.due("parameters of " + head, true, count(heads.group(2), ",") < 7);
        }
    }

    private static int count(String code, String pattern) {
        int found = 0;
        Matcher matcher = Pattern.compile(pattern).matcher(code);
        while (matcher.find()) {
            found++;
        }
        return found;
    }
}
