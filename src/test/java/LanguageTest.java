import java.io.IOException;
import java.lang.reflect.Field;
import java.lang.reflect.Method;
import java.lang.reflect.Modifier;
import java.nio.file.Files;
import java.nio.file.Path;
import java.util.List;
import java.util.Set;
import java.util.TreeSet;
import java.util.regex.Matcher;
import java.util.regex.Pattern;

/** Those rules of LANGUAGE.md that a look at the program's text and at its classes can tell. */
public final class LanguageTest {
    private static final Path SOURCE = Path.of("src/main/java/WireBench.java");
    private static final int LONGEST_METHOD = 60;
    private static final int MOST_PARAMETERS = 7;
    private static final int MOST_CLASSES = 12;
    private static final int MOST_FIELDS = 20;

    // What the rules forbid, or allow only in forms that this program does not need.
    private static final List<String> FORBIDDEN = List.of("\\bpackage\\b", "\\bimport\\b", "->",
            "::", "\\btry\\b", "\\bcatch\\b", "\\bfinally\\b", "\\bsynchronized\\b", "\\bassert\\b",
            "\\bstatic\\s*\\{", "\\bprotected\\b", "Exact\\b", "\\bObject\\b",
            "\\bSystem\\.(?!arraycopy)", "\\bThread\\b", "\\bnative\\b", "\\bvolatile\\b",
            "\\bextends\\b", "\\bjava\\.",
            "\\.(equals|hashCode|toString|getMessage|getClass)\\b", "\\bfloat\\b", "\\bdouble\\b");

    private static final Set<String> THROWN = Set.of("IllegalArgumentException",
            "IllegalStateException", "IndexOutOfBoundsException");

    public static void main(String[] args) throws IOException {
        String code = withoutComments(Files.readString(SOURCE));
        for (String forbidden : FORBIDDEN) {
            Checks.same(forbidden, "not found", found(forbidden, code));
        }
        throwsOnlyWrittenTexts(code);
        hidesAllButItsFace(code);
        methodsStayShort(code);
        usesNoOtherLibrary(code);
        makesOnlyItsOwn(code);
        staysSmall();
        Checks.end();
    }

    private static String withoutComments(String text) {
        return text.replaceAll("(?s)/\\*.*?\\*/", " ").replaceAll("//[^\n]*", " ");
    }

    private static String found(String pattern, String code) {
        Matcher matcher = Pattern.compile(pattern).matcher(code);
        return matcher.find() ? matcher.group() : "not found";
    }

    /** Rule 6: throw new E() or throw new E("a written text"), and no other exceptions. */
    private static void throwsOnlyWrittenTexts(String code) {
        Matcher matcher = Pattern.compile("\\bthrow\\b[^;]*;").matcher(code);
        Pattern form = Pattern.compile("throw new (\\w+)\\((\"[^\"\\\\]*\")?\\);");
        while (matcher.find()) {
            Matcher thrown = form.matcher(matcher.group());
            boolean fine = thrown.matches() && THROWN.contains(thrown.group(1));
            Checks.same(matcher.group(), "true", String.valueOf(fine));
        }
    }

    /** Rule 1: only the face is to be seen, and no private method has a public one's name. */
    private static void hidesAllButItsFace(String code) {
        Set<String> shown = new TreeSet<>();
        Set<String> hidden = new TreeSet<>();
        Matcher matcher = Pattern.compile("\\n {4,8}(public |private |)(static )?(final )?"
                + "(int|long|boolean|void|Net|Arrival|byte)(\\[\\])? (\\w+)\\(").matcher(code);
        while (matcher.find()) {
            Checks.same(matcher.group(6) + " says who sees it", "true",
                    String.valueOf(!matcher.group(1).isEmpty()));
            (matcher.group(1).equals("public ") ? shown : hidden).add(matcher.group(6));
        }
        Checks.same("the face's methods", "[arrival, byteAt, fated, fates, feed, link, net, next, "
                + "pass, put, puts, underWay]", shown.toString());
        Set<String> both = new TreeSet<>(shown);
        both.retainAll(hidden);
        Checks.same("names of both kinds", "[]", both.toString());
    }

    /** Rule 11: methods stay short; here one ends with a brace as far in as it begins. */
    private static void methodsStayShort(String code) {
        int begun = -1;
        String[] lines = code.split("\n");
        for (int i = 0; i < lines.length; i++) {
            if (lines[i].matches(" {4,8}(public|private) .*\\(.*")) {
                begun = i;
            }
            if (begun >= 0 && lines[i].matches(" {4}(?: {4})?\\}")) {
                boolean isShort = i - begun < LONGEST_METHOD;
                Checks.same(lines[begun].trim() + " is short", "true", String.valueOf(isShort));
            }
        }
    }

    /** Rule 4: of the library, this program needs one function. */
    private static void usesNoOtherLibrary(String code) {
        Set<String> used = new TreeSet<>();
        Matcher matcher = Pattern.compile("\\b[A-Z]\\w*[a-z]\\w*\\.\\w+").matcher(code);
        while (matcher.find()) {
            used.add(matcher.group());
        }
        Checks.same("functions of the library", "[Math.min]", used.toString());
    }

    /** Rules 3 and 6: own classes, rows of them and of bytes, and exceptions. */
    private static void makesOnlyItsOwn(String code) {
        Set<String> made = new TreeSet<>();
        Matcher matcher = Pattern.compile("\\bnew (\\w+[\\[(])").matcher(code);
        while (matcher.find()) {
            made.add(matcher.group(1));
        }
        Checks.same("what is made", "[Arrival(, Arrival[, IllegalArgumentException(, "
                + "IllegalStateException(, IndexOutOfBoundsException(, Net(, Net[, byte[]",
                made.toString());
    }

    /** Rule 11 (parameters, classes, fields beside constants), and rules 1, 2 and 5. */
    private static void staysSmall() {
        Class<?>[] inside = WireBench.class.getDeclaredClasses();
        atMost("classes", MOST_CLASSES, 1 + inside.length);
        looksAt(WireBench.class);
        for (Class<?> one : inside) {
            boolean isStatic = Modifier.isStatic(one.getModifiers());
            Checks.same(one + " is static", "true", String.valueOf(isStatic));
            looksAt(one);
        }
    }

    private static void looksAt(Class<?> one) {
        int fields = 0;
        for (Field field : one.getDeclaredFields()) {
            if (!Modifier.isStatic(field.getModifiers())) {
                fields++;
            } else {
                boolean constant = Modifier.isFinal(field.getModifiers())
                        && field.getType() == int.class;
                Checks.same(field + " is a constant", "true", String.valueOf(constant));
            }
        }
        atMost("fields of " + one, MOST_FIELDS, fields);
        for (Method method : one.getDeclaredMethods()) {
            atMost("parameters of " + method, MOST_PARAMETERS, method.getParameterCount());
        }
    }

    private static void atMost(String what, int most, int count) {
        Checks.same(what + ", " + count, "true", String.valueOf(count <= most));
    }
}
