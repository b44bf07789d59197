import java.io.IOException;
import java.lang.reflect.Field;
import java.lang.reflect.Method;
import java.lang.reflect.Modifier;
import java.nio.charset.StandardCharsets;
import java.nio.file.Files;
import java.nio.file.Path;
import java.util.ArrayList;
import java.util.List;
import java.util.Set;
import java.util.TreeSet;
import java.util.regex.Matcher;
import java.util.regex.Pattern;

/**
 * Those rules of LANGUAGE.md that can be seen from the source's own lines, each by its number. What the class does
 * without is refused here even where a rule leaves it (a try, a double, more of the library), until it is looked at.
 */
public final class LanguageTest {
    private static final Path SOURCE = Path.of("src/main/java/GoingOver.java");
    private static final int LINES_MOST = 60;
    private static final int PARAMETERS_MOST = 7;
    private static final int CLASSES_MOST = 12;
    private static final int FIELDS_MOST = 20;

    private static final Set<String> LIBRARY = Set.of("NoSuchElementException", "String", "Integer", "Math", "System");
    private static final Set<String> FUNCTIONS = Set.of("Integer.bitCount", "Math.min", "Math.max", "System.arraycopy");
    private static final Set<String> STATIC_TYPES = Set.of("int", "long", "boolean", "char", "String", "int[]", "long[]",
        "char[]", "byte[]");
    private static final String[] REFUSED = {"finally", "try", "catch", "synchronized", "assert", "volatile", "transient",
        "native", "yield", "var", "float", "double", "package", "super", "getClass", "equals", "hashCode", "toString"};

    /** The rules on types, library and exceptions begin with it: which words may stand there at all. */
    private static final int WORDS = 3;

    private static int wrong = 0;

    private static void tell(int rule, String what) {
        wrong++;
        System.out.println("rule " + rule + ": " + what);
    }

    private static void need(boolean so, int rule, String what) {
        if (!so) tell(rule, what);
    }

    public static void main(String[] args) throws IOException {
        String source = Files.readString(SOURCE, StandardCharsets.ISO_8859_1);
        String code = withoutTexts(source);
        List<Class<?>> classes = new ArrayList<>(List.of(GoingOver.class));
        classes.addAll(List.of(GoingOver.class.getDeclaredClasses()));
        signs(source);
        words(code);
        library(code, classes);
        exceptions(code);
        methods(code);
        sizes(classes);
        if (wrong > 0) System.exit(1);
        System.out.println("the source keeps to what is seen of the language's rules");
    }

    /** The source, what stands in comments and between quotes being blank. */
    private static String withoutTexts(String source) {
        Matcher m = Pattern.compile("//[^\n]*|/\\*.*?\\*/|\"(\\\\.|[^\"\\\\])*\"|'(\\\\.|[^'\\\\])'", Pattern.DOTALL).matcher(source);
        StringBuilder b = new StringBuilder(source);
        while (m.find())
            for (int k = m.start(); k < m.end(); k++) if (b.charAt(k) != '\n') b.setCharAt(k, b.charAt(k) == '"' ? '"' : ' ');
        return b.toString();
    }

    private static void signs(String source) {
        for (char c : source.toCharArray()) need(c == '\n' || c >= ' ' && c < 127, 4, "a sign of number " + (int) c);
    }

    private static boolean hasWord(String code, String word) {
        return Pattern.compile("(?<![A-Za-z0-9_])" + word + "(?![A-Za-z0-9_])").matcher(code).find();
    }

    private static void words(String code) {
        for (String word : REFUSED) need(!hasWord(code, word), WORDS, "the word " + word);
        need(!code.contains("->"), 2, "a lambda, or a switch with arrows");
        need(!code.contains("::"), 2, "a method reference");
        need(!Pattern.compile("\"\\s*\\+|\\+\\s*\"").matcher(code).find(), 10, "texts that are joined by +");
        need(!Pattern.compile("(while|for) *\\((true|;;|; ;)").matcher(code).find(), 9, "a loop without an end");
    }

    private static void library(String code, List<Class<?>> classes) {
        Set<String> known = new TreeSet<>(LIBRARY);
        for (Class<?> c : classes) known.add(c.getSimpleName());
        Matcher names = Pattern.compile("(?<![A-Za-z0-9_])[A-Z][A-Za-z0-9_]*[a-z][A-Za-z0-9_]*").matcher(code);
        while (names.find()) need(known.contains(names.group()), 4, "the class " + names.group());
        Matcher uses = Pattern.compile("(?<![A-Za-z0-9_])(Integer|Math|System|String)\\.[A-Za-z]+").matcher(code);
        while (uses.find()) need(FUNCTIONS.contains(uses.group()), 4, uses.group());
        Matcher imports = Pattern.compile("import [^;]*;").matcher(code);
        while (imports.find())
            need(imports.group().equals("import java.util.NoSuchElementException;"), 4, imports.group());
    }

    private static void exceptions(String code) {
        Matcher m = Pattern.compile("(?<![A-Za-z0-9_])throw [^;]*;").matcher(code);
        int thrown = 0;
        while (m.find()) {
            need(m.group().startsWith("throw new NoSuchElementException("), 6, m.group());
            thrown++;
        }
        int due = 0;
        for (String call : List.of("public int person(", "public int mean(")) {
            int from = code.indexOf(call);
            int to = code.indexOf("\n    }\n", from);
            need(from >= 0 && to > from, 1, "there is no '" + call + "'");
            if (from >= 0 && to > from) due += code.substring(from, to).split("throw new ", -1).length - 1;
        }
        need(thrown == due, 6, "something is thrown outside person() and mean()");
    }

    /** A method begins at a line that ends in ') {' and stands as deep as those of its class do. */
    private static void methods(String code) {
        String[] lines = code.split("\n");
        Pattern head = Pattern.compile("^( {4}| {8})(?!if|for|while|switch|else|do |\\})[A-Za-z].*\\)( throws \\w+)? \\{$");
        int found = 0;
        for (int k = 0; k < lines.length; k++) {
            Matcher m = head.matcher(lines[k]);
            if (!m.matches()) continue;
            found++;
            int end = k;
            while (end < lines.length && !lines[end].equals(m.group(1) + "}")) end++;
            need(end - k + 1 <= LINES_MOST, 11, "too many lines: " + lines[k].trim());
        }
        need(found > 41, 11, "the methods were not found");
    }

    private static void sizes(List<Class<?>> classes) {
        need(classes.size() <= CLASSES_MOST, 11, "too many classes: " + classes.size());
        Set<String> open = new TreeSet<>();
        for (Method m : GoingOver.class.getDeclaredMethods()) if (Modifier.isPublic(m.getModifiers())) open.add(m.getName());
        for (Class<?> c : classes) {
            int fields = 0;
            for (Field f : c.getDeclaredFields()) {
                if (!Modifier.isStatic(f.getModifiers())) fields++;
                else need(Modifier.isFinal(f.getModifiers()) && STATIC_TYPES.contains(f.getType().getSimpleName()), 5,
                    c.getSimpleName() + "." + f.getName());
            }
            need(fields <= FIELDS_MOST, 11, "too many fields: " + c.getSimpleName());
            for (Method m : c.getDeclaredMethods()) {
                need(m.getParameterCount() <= PARAMETERS_MOST, 11, "too many parameters: " + m.getName());
                need(!Modifier.isPrivate(m.getModifiers()) || !open.contains(m.getName()), 1, "private, as a public one: " + m.getName());
            }
        }
    }
}
