import java.nio.file.Files;
import java.nio.file.Path;
import java.util.regex.Matcher;
import java.util.regex.Pattern;

/** Rules of LANGUAGE.md that the text of the class can show; it is started where .ci/run stands, at the root. */
public final class LanguageTest {
    private static int wrong = 0;

    private static void forbid(String rule, String pattern, String code) {
        Matcher matcher = Pattern.compile(pattern).matcher(code);
        while (matcher.find()) {
            wrong++;
            int line = (int) code.substring(0, matcher.start()).chars().filter(c -> c == '\n').count() + 1;
            System.out.println("line " + line + ": rule " + rule + ": " + matcher.group().trim());
        }
    }

    /** Comments, texts and signs go, line ends stay. */
    private static String bare(String text) {
        String code = text.replaceAll("//[^\n]*", "").replaceAll("\"[^\"\n]*\"", "\"\"").replaceAll("'[^'\n]'", "' '");
        Matcher comments = Pattern.compile("/\\*.*?\\*/", Pattern.DOTALL).matcher(code);
        return comments.replaceAll(found -> found.group().replaceAll("[^\n]", ""));
    }

    private static int longestMethod(String code) {
        int longest = 0, start = 0, number = 0;
        for (String line : code.split("\n", -1)) {
            number++;
            if (line.matches("\\s+(public|private)[^=;]*\\(.*\\{")) start = number;
            if (line.matches("    }|        }") && start > 0) {
                longest = Math.max(longest, number - start + 1);
                start = 0;
            }
        }
        return longest;
    }

    public static void main(String[] args) throws Exception {
        String text = Files.readString(Path.of("src/main/java/SpillJoin.java"));
        String code = bare(text);
        forbid("1 (no package)", "(?m)^package\\b.*", code);
        forbid("2 (no lambda, no method reference)", "->|::", code);
        forbid("3 (no types beside the told ones)", "\\b(Object|Map|Set|HashMap|Optional|Long\\[\\]|var|Stream)\\b", code);
        forbid("4 (only the told library)", "(?m)^import (?!java\\.util\\.(Arrays|ArrayList|List|Iterator);).*", code);
        forbid("4 (none whose name ends in Exact)", "\\w+Exact\\b", code);
        forbid("5 (static fields are final)", "\\bstatic (?!final\\b)[\\w\\[\\]]+ \\w+\\s*[=;,]", code);
        forbid("5 (no static initialiser)", "\\bstatic\\s*\\{", code);
        forbid("6", "\\b(throw|throws|try|catch|finally|synchronized|assert|hashCode|toString)\\b", code);
        forbid("13", "\\b(System\\.(?!arraycopy)|Math\\.random|Thread|Runtime|Random)", code);
        forbid("11 (seven parameters at most)", "\\b\\w+\\((\\w+(\\[\\])* \\w+, ){7,}", code);
        forbid("characters beyond 127", "[^\\x00-\\x7f]", text);
        if (longestMethod(code) > 60) {
            wrong++;
            System.out.println("rule 11: a method of " + longestMethod(code) + " lines");
        }
        if (longestMethod(code) < 5) {
            wrong++;
            System.out.println("no method was found: the test reads the text wrongly");
        }
        System.out.println(wrong == 0 ? "the text keeps to the rules" : wrong + " faults of the language");
        if (wrong != 0) System.exit(1);
    }
}
