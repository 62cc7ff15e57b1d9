import java.io.IOException;
import java.nio.charset.StandardCharsets;
import java.nio.file.Files;
import java.nio.file.Path;
import java.util.List;
import java.util.regex.Matcher;
import java.util.regex.Pattern;

/** What of LANGUAGE.md can be seen in the source's words alone; run from the project's root. */
public final class LanguageTests {
    private static final String[] BANNED = {"->", "::", "\\bfinally\\b", "\\bsynchronized\\b", "\\bassert\\b", "\\w+Exact\\b",
        "\\bFloat\\.", "\\bDouble\\.", "\\btry\\b", "\\bcatch\\b", "\\bSystem\\.(?!arraycopy)", "\\bObject\\b", "\\bpackage\\b",
        "\\bprotected\\b", "\\bstatic\\s*\\{", "\\bvolatile\\b", "\\bThread\\b", "\\bRandom\\b", "\\bMap\\b", "\\bSet\\b",
        "\\bequals\\b", "\\bhashCode\\b", "\\btoString\\b", "\\bwhile\\b", "\\bdo\\b"};
    private static int wrong = 0;

    private static void fault(int line, String text) {
        wrong++;
        System.out.println("line " + line + ": " + text);
    }

    public static void main(String[] args) throws IOException {
        List<String> lines = Files.readAllLines(Path.of("src/main/java/BarrelSlots.java"), StandardCharsets.US_ASCII);
        for (int n = 0; n < lines.size(); n++) {
            checkLine(n + 1, lines.get(n).replaceAll("//.*|/\\*\\*.*", ""));
        }
        checkMethods(lines);
        System.out.println(wrong == 0 ? "the language is kept to" : wrong + " faults of language");
        if (wrong != 0) {
            System.exit(1);
        }
    }

    private static void checkLine(int number, String line) {
        for (String banned : BANNED) {
            if (Pattern.compile(banned).matcher(line).find()) {
                fault(number, "has " + banned);
            }
        }
        if (line.startsWith("import ") && !line.matches("import java\\.util\\.(Arrays|NoSuchElementException|ArrayList|List);")) {
            fault(number, line);
        }
        if (line.contains("throw new") && !line.contains("throw new NoSuchElementException()")) {
            fault(number, line);
        }
    }

    /** Methods stay within sixty lines and seven parameters, and the classes are twelve at most. */
    private static void checkMethods(List<String> lines) {
        Pattern head = Pattern.compile("^( {4}| {8})(?!if|for|switch)\\w[\\w<>\\[\\] ]*\\(([^)]*)\\)[\\w ]*\\{$");
        int classes = 0;
        for (int n = 0; n < lines.size(); n++) {
            classes += lines.get(n).matches(".*\\b(class|record|enum|interface) [A-Z]\\w* .*\\{$") ? 1 : 0;
            Matcher m = head.matcher(lines.get(n));
            if (!m.matches()) {
                continue;
            }
            if (m.group(2).split(",").length > 7) {
                fault(n + 1, "more than seven parameters");
            }
            int end = n;
            while (end < lines.size() && !lines.get(end).equals(m.group(1) + "}")) {
                end++;
            }
            if (end - n > 60) {
                fault(n + 1, "a method of " + (end - n) + " lines");
            }
        }
        if (classes < 1 || classes > 12) {
            fault(1, classes + " classes");
        }
    }
}
