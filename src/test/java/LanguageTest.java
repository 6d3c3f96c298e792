import java.io.IOException;
import java.lang.reflect.Executable;
import java.lang.reflect.Field;
import java.lang.reflect.Method;
import java.lang.reflect.Modifier;
import java.nio.file.Files;
import java.nio.file.Path;
import java.util.ArrayList;
import java.util.Arrays;
import java.util.List;
import java.util.Set;
import java.util.TreeSet;
import java.util.regex.Matcher;
import java.util.regex.Pattern;

/** The rules of LANGUAGE.md that can be seen in the class and in its text, some of them more strictly than they are. */
public final class LanguageTest {
    private static final Path FILE = Path.of("src/main/java/InterchangeDesk.java");

    public static void main(String[] args) throws IOException {
        String text = Files.readString(FILE);
        String code = withoutComments(text);
        String bare = code.replaceAll("\"[^\"\n]*\"", "\"\"").replaceAll("'(\\\\.|[^'\\\\])'", "' '");
        plainCharacters(text);
        forbiddenWords(bare);
        library(bare);
        throwing(code);
        indices(bare);
        divisors(bare);
        loops(bare);
        shortMethods(text);
        List<Class<?>> classes = new ArrayList<>(Arrays.asList(InterchangeDesk.class.getDeclaredClasses()));
        nestedClasses(classes);
        classes.add(InterchangeDesk.class);
        for (Class<?> each : classes) {
            fieldsOf(each);
            parametersOf(each);
        }
        namesOfPrivateMethods();
        Check.end();
    }

    private static String withoutComments(String text) {
        return text.replaceAll("(?s)/\\*.*?\\*/", "").replaceAll("(?m)//.*$", "");
    }

    private static List<String> all(String pattern, String in) {
        List<String> found = new ArrayList<>();
        Matcher m = Pattern.compile(pattern).matcher(in);
        while (m.find()) {
            found.add(m.group(m.groupCount()));
        }
        return found;
    }

    /** Rule 3: "Texts hold characters 0 to 255 alone." */
    private static void plainCharacters(String text) {
        Check.due("characters of the file", all("[^\\x0A\\x20-\\x7E]", text), List.of());
    }

    /** Rules 1, 2, 3, 6 and 13: what the class does without. */
    private static void forbiddenWords(String bare) {
        Check.due("words", all("\\b(package|import|try|catch|finally|synchronized|assert|native|volatile|transient"
                + "|double|float|protected|extends|implements|enum|record|interface|var|goto|strictfp"
                + "|equals|hashCode|toString|getClass|getMessage|System|Thread|Object|static\\s*\\{)", bare), List.of());
        Check.due("lambdas and method references", all("->|::", bare), List.of());
        Check.due("joined texts", all("\"\"\\s*\\+|\\+\\s*\"\"", bare), List.of());
    }

    /** Rule 4: "The library: only what stands here." Of it the class uses one function. */
    private static void library(String bare) {
        Set<String> names = new TreeSet<>(all("\\b([A-Z][a-z]\\w*)", bare));
        names.removeAll(Set.of("Row", "Parts", "Text", "Envelopes", "Table", "Paper"));
        Check.due("names of classes", names, "[IllegalArgumentException, IllegalStateException, InterchangeDesk, Math,"
                + " UnsupportedOperationException]");
        Check.due("functions", new TreeSet<>(all("\\bMath\\.(\\w+)", bare)), "[max]");
    }

    /** Rule 6: "throw new E(\"a written text\")", and no throw in a constructor. */
    private static void throwing(String code) {
        int written = all("throw new (?:IllegalArgument|IllegalState|UnsupportedOperation)Exception\\(\"[^\"]*\"\\);", code)
                .size();
        Check.due("throws with a written text", written, all("\\bthrow\\b", code).size());
        Check.due("throws", written > 0, true);
        int constructor = code.indexOf("public InterchangeDesk()");
        int next = code.indexOf("public boolean type(");
        Check.due("in the constructor", code.substring(constructor, next).contains("throw"), false);
    }

    /** Rule 7: "an index is looked at before it is used": in Row, and where the tables are. */
    private static void indices(String bare) {
        Check.due("indices", new TreeSet<>(all("(\\w+\\[[^\\]]+\\])", bare)), "[Table[TYPES], cells[count], cells[i],"
                + " int[Math.max(most, 0)], tables[k], tables[type]]");
    }

    /** Rule 7: "a divisor before it divides": each one is a written number. */
    private static void divisors(String bare) {
        Check.due("divisors", new TreeSet<>(all("[/%]=?\\s*([^\\s;)]+)", bare)), "[10]");
    }

    /** Rule 9: "Every loop has an end that can be seen from its own lines": each one counts against a bound. */
    private static void loops(String bare) {
        Check.due("other loops", all("\\b(while|do)\\b", bare), List.of());
        for (String head : all("\\bfor \\((.*)\\) \\{", bare)) {
            Check.due("loop " + head, head.matches(".*; \\w+ [<>]=? .*; \\w+(\\+\\+|--| -= 8)"), true);
        }
    }

    /** Rule 11: "Methods stay short (some sixty lines)" */
    private static void shortMethods(String text) {
        String[] lines = text.split("\n");
        int first = 0;
        int methods = 0;
        for (int k = 0; k < lines.length; k++) {
            if (lines[k].matches("( {4}){1,2}[\\w ]*\\w\\(.*") && !lines[k].contains(";")) {
                first = k;
            } else if (first > 0 && lines[k].equals(lines[first].replaceAll("\\S.*", "}"))) {
                Check.due("short " + lines[first].trim(), k - first < 40, true);
                first = 0;
                methods++;
            }
        }
        Check.due("methods found: " + methods, methods > 80, true);
    }

    /** Rules 1, 2 and 11: "static nested classes", "private or package-visible", "at most some twelve classes". */
    private static void nestedClasses(List<Class<?>> classes) {
        Check.due("a few classes", classes.size() > 0 && classes.size() <= 11, true);
        for (Class<?> each : classes) {
            int modifiers = each.getModifiers();
            Check.due("static " + each, Modifier.isStatic(modifiers), true);
            Check.due("public " + each, Modifier.isPublic(modifiers) || Modifier.isProtected(modifiers), false);
            Check.due("classes inside " + each, each.getDeclaredClasses().length, 0);
        }
    }

    /** Rules 5 and 11: "Static fields are final: constants"; "a class some twenty fields beside its constants". */
    private static void fieldsOf(Class<?> each) {
        int fields = 0;
        for (Field f : each.getDeclaredFields()) {
            if (Modifier.isStatic(f.getModifiers())) {
                Check.due("static " + f, Modifier.isFinal(f.getModifiers()) && f.getType() == int.class, true);
            } else {
                fields++;
            }
        }
        Check.due("fields of " + each, fields <= 20, true);
    }

    /** Rule 11: "A method takes at most seven parameters." */
    private static void parametersOf(Class<?> each) {
        List<Executable> all = new ArrayList<>(Arrays.asList(each.getDeclaredMethods()));
        all.addAll(Arrays.asList(each.getDeclaredConstructors()));
        for (Executable m : all) {
            Check.due("parameters of " + m, m.getParameterCount() <= 7, true);
        }
    }

    /** Rule 1: "No private method bears the name of a public one." */
    private static void namesOfPrivateMethods() {
        Set<String> open = new TreeSet<>();
        for (Method m : InterchangeDesk.class.getDeclaredMethods()) {
            if (Modifier.isPublic(m.getModifiers())) {
                open.add(m.getName());
            }
        }
        Check.due("public methods", open.size(), 15);
        List<Class<?>> classes = new ArrayList<>(Arrays.asList(InterchangeDesk.class.getDeclaredClasses()));
        classes.add(InterchangeDesk.class);
        for (Class<?> each : classes) {
            for (Method m : each.getDeclaredMethods()) {
                if (!Modifier.isPublic(m.getModifiers())) {
                    Check.due("name of " + m, open.contains(m.getName()), false);
                }
            }
        }
    }
}
