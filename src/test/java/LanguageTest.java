import java.io.IOException;
import java.nio.file.Files;
import java.nio.file.Path;
import java.util.List;
import java.util.Set;
import java.util.TreeSet;
import java.util.regex.Matcher;
import java.util.regex.Pattern;

/** Those rules of LANGUAGE.md that a look at the program's text can tell. */
public final class LanguageTest {
    private static final Path SOURCE = Path.of("src/main/java/WireBench.java");
    private static final int LONGEST_METHOD = 60;

    // What the rules forbid, or allow only in forms that this program does not need.
    private static final List<String> FORBIDDEN = List.of("\\bpackage\\b", "\\bimport\\b", "->",
            "::", "\\btry\\b", "\\bcatch\\b", "\\bfinally\\b", "\\bsynchronized\\b", "\\bassert\\b",
            "\\bstatic\\s*\\{", "\\bprotected\\b", "Exact\\b", "\\bObject\\b",
            "\\bSystem\\.(?!arraycopy)", "\\bThread\\b", "\\bnative\\b", "\\bvolatile\\b",
            "\\bextends\\b", "\\bjava\\.",
            "\\.(equals|hashCode|toString|getMessage|getClass)\\b", "\\bfloat\\b", "\\bdouble\\b");

    private static final Set<String> THROWN = Set.of("IllegalArgumentException",
            "IllegalStateException", "IndexOutOfBoundsException");

    public static void main(String[] args) throws IOException {
        String code = withoutComments(Files.readString(SOURCE));
        for (String forbidden : FORBIDDEN) {
            Checks.same(forbidden, "not found", found(forbidden, code));
        }
        throwsOnlyWrittenTexts(code);
        hidesAllButItsFace(code);
        methodsStayShort(code);
        Checks.end();
    }

    private static String withoutComments(String text) {
        return text.replaceAll("(?s)/\\*.*?\\*/", " ").replaceAll("//[^\n]*", " ");
    }

    private static String found(String pattern, String code) {
        Matcher matcher = Pattern.compile(pattern).matcher(code);
        return matcher.find() ? matcher.group() : "not found";
    }

    /** Rule 6: throw new E() or throw new E("a written text"), and no other exceptions. */
    private static void throwsOnlyWrittenTexts(String code) {
        Matcher matcher = Pattern.compile("\\bthrow\\b[^;]*;").matcher(code);
        Pattern form = Pattern.compile("throw new (\\w+)\\((\"[^\"\\\\]*\")?\\);");
        while (matcher.find()) {
            Matcher thrown = form.matcher(matcher.group());
            boolean fine = thrown.matches() && THROWN.contains(thrown.group(1));
            Checks.same(matcher.group(), "true", String.valueOf(fine));
        }
    }

    /** Rule 1: only the face is to be seen, and no private method has a public one's name. */
    private static void hidesAllButItsFace(String code) {
        Set<String> shown = new TreeSet<>();
        Set<String> hidden = new TreeSet<>();
        Matcher matcher = Pattern.compile("\\n {4,8}(public |private |)(static )?(final )?"
                + "(int|long|boolean|void|Net|Arrival|byte)(\\[\\])? (\\w+)\\(").matcher(code);
        while (matcher.find()) {
            Checks.same(matcher.group(6) + " says who sees it", "true",
                    String.valueOf(!matcher.group(1).isEmpty()));
            (matcher.group(1).equals("public ") ? shown : hidden).add(matcher.group(6));
        }
        Checks.same("the face's methods", "[arrival, byteAt, fated, fates, feed, link, net, next, "
                + "pass, put, puts, underWay]", shown.toString());
        Set<String> both = new TreeSet<>(shown);
        both.retainAll(hidden);
        Checks.same("names of both kinds", "[]", both.toString());
    }

    /** Rule 11: methods stay short; here one ends with a brace as far in as it begins. */
    private static void methodsStayShort(String code) {
        int begun = -1;
        String[] lines = code.split("\n");
        for (int i = 0; i < lines.length; i++) {
            if (lines[i].matches(" {4,8}(public|private) .*\\(.*")) {
                begun = i;
            }
            if (begun >= 0 && lines[i].matches(" {4}(?: {4})?\\}")) {
                boolean isShort = i - begun < LONGEST_METHOD;
                Checks.same(lines[begun].trim() + " is short", "true", String.valueOf(isShort));
            }
        }
    }
}
