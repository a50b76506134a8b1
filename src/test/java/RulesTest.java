import java.io.IOException;
import java.lang.reflect.Field;
import java.lang.reflect.Method;
import java.lang.reflect.Modifier;
import java.nio.file.Files;
import java.nio.file.Path;
import java.util.ArrayList;
import java.util.Arrays;
import java.util.HashSet;
import java.util.List;
import java.util.Set;
import java.util.regex.Matcher;
import java.util.regex.Pattern;

/** What a test can see of the rules of LANGUAGE.md in the program's text and in its classes. */
public final class RulesTest {
    private static final Check CHECK = new Check("RulesTest");
    private static final Path PROGRAM = Path.of("src", "main", "java", "HornBench.java");

    /** Words that begin with a capital letter, beside the program's own classes and constants. */
    private static final Set<String> LIBRARY = new HashSet<>(Arrays.asList("String", "StringBuilder", "Math",
        "Integer", "Long", "ArrayList", "List", "Arrays", "System", "Iterator", "Iterable", "Comparable", "Override",
        "IllegalStateException", "IllegalArgumentException", "IndexOutOfBoundsException", "ArithmeticException",
        "UnsupportedOperationException", "NoSuchElementException", "RuntimeException"));

    public static void main(String[] args) throws IOException {
        String text = Files.readString(PROGRAM);
        signs(text);
        String code = withoutTexts(text);
        words(code);
        exceptions(code);
        loops(code);
        lengths(code);
        classes();
        CHECK.end();
    }

    private static void signs(String text) {
        for (int k = 0; k < text.length(); k++) {
            char c = text.charAt(k);
            if (c != '\n' && (c < 32 || c > 126)) {
                CHECK.isTrue("sign " + (int) c + " at " + k, false);
            }
        }
        CHECK.isTrue("no package line", !text.startsWith("package"));
    }

    /** The program with empty comments, strings and characters. */
    private static String withoutTexts(String text) {
        String pattern = "/\\*.*?\\*/|//[^\n]*|\"(?:\\\\.|[^\"\\\\])*\"|'(?:\\\\.|[^'\\\\])'";
        Matcher matcher = Pattern.compile(pattern, Pattern.DOTALL).matcher(text);
        StringBuilder code = new StringBuilder();
        while (matcher.find()) {
            String found = matcher.group();
            String lines = found.replaceAll("[^\n]", "");
            matcher.appendReplacement(code, found.charAt(0) == '/' ? lines : found.charAt(0) == '"' ? "\"\"" : "' '");
        }
        return matcher.appendTail(code).toString();
    }

    private static void words(String code) {
        String[] banned = {"->", "::", "\\btry\\b", "\\bcatch\\b", "\\bfinally\\b", "\\bsynchronized\\b", "\\bassert\\b",
            "\\bstatic\\s*\\{", "\\bvolatile\\b", "\\bnative\\b", "\\bvar\\b", "Exact\\b", "\\bhashCode\\b",
            "\\btoString\\b", "\\bgoto\\b", "\\bimport\\s+static\\b", "\\bThread\\b", "\\bObject\\b", "\"\"\\s*\\+",
            "\\+\\s*\"\"", "\\[\\]\\[\\]\\[\\]"};
        for (String one : banned) {
            CHECK.isTrue("there is no " + one, !Pattern.compile(one).matcher(code).find());
        }
        Set<String> own = new HashSet<>();
        for (Class<?> inside : HornBench.class.getDeclaredClasses()) {
            own.add(inside.getSimpleName());
        }
        own.add("HornBench");
        Matcher matcher = Pattern.compile("\\b[A-Z][A-Za-z0-9]*[a-z][A-Za-z0-9]*\\b").matcher(code);
        while (matcher.find()) {
            String word = matcher.group();
            CHECK.isTrue(word + " is in the library, or the program's own",
                own.contains(word) || LIBRARY.contains(word));
        }
    }

    private static void exceptions(String code) {
        Matcher matcher = Pattern.compile("\\bthrow\\b([^;]*);").matcher(code);
        while (matcher.find()) {
            CHECK.isTrue("throw" + matcher.group(1),
                matcher.group(1).matches(" new (Ill|Ind|Ari|Uns|NoS|Run)[A-Za-z]*Exception\\((\"\")?\\)"));
        }
    }

    /** Each loop names a bound: there is a comparison by less or greater in what it asks. */
    private static void loops(String code) {
        Matcher matcher = Pattern.compile("\\b(for|while) \\((.*)\\) \\{").matcher(code);
        int loops = 0;
        while (matcher.find()) {
            loops++;
            CHECK.isTrue("bound of " + matcher.group(), matcher.group(2).matches(".*[<>].*"));
        }
        int words = code.split("\\b(for|while|do)\\b", -1).length - 1;
        CHECK.same("loops that were looked at", loops, words);
    }

    private static void lengths(String code) {
        String[] lines = code.split("\n", -1);
        Pattern head = Pattern.compile("^( {4}| {8})[a-z].*\\).* \\{$");
        for (int k = 0; k < lines.length; k++) {
            Matcher matcher = head.matcher(lines[k]);
            if (matcher.find()) {
                int end = k;
                while (end < lines.length && !lines[end].equals(matcher.group(1) + "}")) {
                    end++;
                }
                CHECK.isTrue("length of " + lines[k].trim(), end - k < 60);
            }
        }
    }

    private static void classes() {
        List<Class<?>> all = new ArrayList<>(Arrays.asList(HornBench.class.getDeclaredClasses()));
        all.add(HornBench.class);
        CHECK.isTrue("at most 12 classes", all.size() <= 12);
        for (Class<?> one : all) {
            int fields = 0;
            for (Field field : one.getDeclaredFields()) {
                boolean isStatic = Modifier.isStatic(field.getModifiers());
                fields += isStatic ? 0 : 1;
                CHECK.isTrue(field + ": a type of the language", isAllowed(field.getType(), all));
                if (isStatic) {
                    CHECK.isTrue(field + ": a constant", Modifier.isFinal(field.getModifiers())
                        && (field.getType().isPrimitive() || field.getType() == String.class));
                }
            }
            CHECK.isTrue(one.getSimpleName() + ": at most 20 fields", fields <= 20);
            for (Method method : one.getDeclaredMethods()) {
                CHECK.isTrue(method + ": at most 7 parameters", method.getParameterCount() <= 7);
                CHECK.isTrue(method + ": what it answers", isAllowed(method.getReturnType(), all));
            }
        }
    }

    private static boolean isAllowed(Class<?> type, List<Class<?>> own) {
        Class<?> inner = type.isArray() ? type.getComponentType() : type;
        return inner.isPrimitive() || inner == String.class || own.contains(inner);
    }
}
