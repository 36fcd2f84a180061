import java.io.IOException;
import java.nio.file.Files;
import java.nio.file.Path;
import java.util.List;
import java.util.regex.Matcher;
import java.util.regex.Pattern;

/** What a look at the text of the class can tell of the rules of ../shared/LANGUAGE.md. */
public final class LanguageTest {
    private static final Path CLASS = Path.of("src/main/java/PlannedTables.java");
    private static final Due due = new Due();

    public static void main(String[] args) throws IOException {
        String text = Files.readString(CLASS);
        String code = withoutTextsAndComments(text);
        words(code);
        exceptions(code);
        sizes(code);
        due.end();
    }

    private static String withoutTextsAndComments(String text) {
        return text.replaceAll("(?s)/\\*.*?\\*/", "").replaceAll("//[^\n]*", "").replaceAll("\"[^\"\n]*\"", "\"\"");
    }

    private static boolean has(String code, String pattern) {
        return Pattern.compile(pattern).matcher(code).find();
    }

    private static void words(String code) {
        due.holds("3, 10: characters 0 to 255 alone", code.chars().allMatch(c -> c < 256));
        due.holds("1: no package line", !has(code, "(?m)^package "));
        List<String> never = List.of("lambda ->", "->", "method reference", "::", "finally", "\\bfinally\\b",
                "assert", "\\bassert\\b", "synchronized", "\\bsynchronized\\b", "getMessage", "\\bgetMessage\\b",
                "protected", "\\bprotected\\b", "a static block", "\\bstatic\\s*\\{", "Exact", "\\w+Exact\\(",
                "threads, clocks and files", "\\b(Thread|Random|System\\.(nano|current|get|in|out|err)|java\\.io)\\b",
                "NaN and Math on doubles", "\\b(NaN|sqrt|random)\\b");
        for (int i = 0; i < never.size(); i += 2) {
            due.holds("no " + never.get(i), !has(code, never.get(i + 1)));
        }
        Matcher imports = Pattern.compile("import ([\\w.]+);").matcher(code);
        while (imports.find()) {
            due.holds("4: import " + imports.group(1), imports.group(1).matches(
                    "java\\.util\\.(NoSuchElementException|ArrayList|List|Arrays|Iterator)"));
        }
        Matcher fields = Pattern.compile("(?m)^ +(?:private |public )?static (?!final)[^({;]*[;=]").matcher(code);
        due.holds("5: static fields are final", !fields.find());
    }

    private static void exceptions(String code) {
        Matcher thrown = Pattern.compile("\\bthrow\\b([^;]*);").matcher(code);
        int many = 0;
        while (thrown.find()) {
            many++;
            due.holds("6: throw" + thrown.group(1), thrown.group(1).matches(" new (IllegalState|IllegalArgument"
                    + "|IndexOutOfBounds|Arithmetic|UnsupportedOperation|NoSuchElement|Runtime)Exception\\((\"\")?\\)"));
        }
        due.holds("there are throws", many > 0);
    }

    /** Counts the lines of each method and the classes: a method begins at a line that ends its head with {. */
    private static void sizes(String code) {
        Matcher types = Pattern.compile("\\b(class|record|enum|interface) \\w+").matcher(code);
        due.holds("11: at most twelve classes", types.results().count() <= 12);
        // A head may go on in a second line.
        String[] lines = code.replaceAll("\\)\\s*\n\\s+throws", ") throws").split("\n");
        int begun = -1;
        String indent = "";
        for (int i = 0; i < lines.length; i++) {
            Matcher head = Pattern.compile("^( +)[\\w\\[\\] ]+\\([^)]*\\)[\\w, .]*\\{$").matcher(lines[i]);
            if (begun < 0 && head.find() && !has(lines[i], "\\b(if|for|while|switch)\\b")) {
                begun = i;
                indent = head.group(1);
            } else if (begun >= 0 && lines[i].equals(indent + "}")) {
                due.holds("11: the method at " + lines[begun].trim() + " is short", i - begun <= 60);
                begun = -1;
            }
        }
        due.holds("the last method ends", begun < 0);
    }
}
