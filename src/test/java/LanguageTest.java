import java.io.IOException;
import java.lang.reflect.Field;
import java.lang.reflect.Method;
import java.lang.reflect.Modifier;
import java.nio.file.Files;
import java.nio.file.Path;
import java.util.ArrayList;
import java.util.HashSet;
import java.util.List;
import java.util.Set;
import java.util.regex.Matcher;
import java.util.regex.Pattern;
import java.util.stream.Stream;

/** Those rules of ../shared/LANGUAGE.md that a program can look at; it is run where .ci/run runs it. */
public final class LanguageTest {
    private static final Path MAIN = Path.of("src", "main");
    private static final Path SOURCE = MAIN.resolve(Path.of("java", "FormatForge.java"));
    private static final String[] FORBIDDEN = {"(?m)^(?!\\s*(case|default)\\b).*->", "::", "\\bfinally\\b", "\\bsynchronized\\b",
        "\\bassert\\b", "\\bvolatile\\b", "\\bpackage\\b", "\\bthrow\\s+(?!new\\b)", "\\bstatic\\s*\\{", "\\bThread\\b",
        "\\bprotected\\b", "\\bgetMessage\\b",
        "\\bSystem\\.(?!arraycopy\\b)", "\\bMath\\.\\w+Exact\\b", "\\bString\\.", "\\[\\]\\s*\\[\\]\\s*\\["};
    private static final Set<String> IMPORTED = Set.of("java.util.NoSuchElementException", "java.util.ArrayList", "java.util.Arrays",
            "java.util.Iterator", "java.util.List");
    private static final Set<String> THROWN = Set.of("IllegalStateException", "IllegalArgumentException", "IndexOutOfBoundsException",
            "ArithmeticException", "UnsupportedOperationException", "NoSuchElementException", "RuntimeException");
    private static final int CLASSES = 12;
    private static final int FIELDS = 20;
    private static final int PARAMETERS = 7;
    private static final int LINES = 60;

    public static void main(String[] args) throws IOException {
        oneFile();
        String source = Files.readString(SOURCE);
        String code = source.replaceAll("(?s)/\\*.*?\\*/", "").replaceAll("//[^\n]*", "");
        for (String forbidden : FORBIDDEN) {
            Script.check("found: " + forbidden, Pattern.compile(forbidden).matcher(code).find(), false);
        }
        Script.check("characters 0 to 255 alone", source.chars().allMatch(sign -> sign < 256), true);
        Script.check("imports", IMPORTED.containsAll(found("\\bimport\\s+([^;]*);", code)), true);
        Script.check("thrown", THROWN.containsAll(found("\\bthrow new (\\w+)\\(", code)), true);
        shortMethods(source);
        classes();
        Script.finish("LanguageTest");
    }

    private static void oneFile() throws IOException {
        try (Stream<Path> files = Files.walk(MAIN)) {
            Script.check("files", files.filter(Files::isRegularFile).toList(), List.of(SOURCE));
        }
    }

    private static List<String> found(String pattern, String code) {
        List<String> found = new ArrayList<>();
        Matcher matcher = Pattern.compile(pattern).matcher(code);
        while (matcher.find()) {
            found.add(matcher.group(1));
        }
        return found;
    }

    /** A method begins at a line that ends with a brace and ends at the brace below its first sign. */
    private static void shortMethods(String source) {
        String[] lines = source.split("\n");
        for (int first = 0; first < lines.length; first++) {
            String line = lines[first];
            if (line.matches(" +[^ *].*\\) (throws .*)?\\{") && !line.matches(" *(if|for|while|switch|\\}).*")) {
                String end = line.substring(0, line.length() - line.stripLeading().length()) + "}";
                int last = first;
                while (!lines[last].equals(end)) {
                    last++;
                }
                Script.check("short: " + line.strip(), last - first < LINES, true);
            }
        }
    }

    private static void classes() {
        List<Class<?>> all = new ArrayList<>(List.of(FormatForge.class));
        for (int i = 0; i < all.size(); i++) {
            all.addAll(List.of(all.get(i).getDeclaredClasses()));
        }
        Script.check("at most some twelve classes", all.size() <= CLASSES, true);
        Set<String> face = new HashSet<>();
        for (Method method : FormatForge.class.getDeclaredMethods()) {
            if (Modifier.isPublic(method.getModifiers())) {
                face.add(method.getName());
            }
        }
        for (Class<?> type : all) {
            boolean inside = type != FormatForge.class;
            Script.check("static and not public: " + type, !inside || Modifier.isStatic(type.getModifiers())
                    && (type.getModifiers() & (Modifier.PUBLIC | Modifier.PROTECTED)) == 0, true);
            fields(type);
            for (Method method : type.getDeclaredMethods()) {
                Script.check("few parameters: " + method, method.getParameterCount() <= PARAMETERS, true);
                Script.check("a name of the face: " + method, inside || Modifier.isPublic(method.getModifiers())
                        || !face.contains(method.getName()), true);
            }
        }
    }

    private static void fields(Class<?> type) {
        int own = 0;
        for (Field field : type.getDeclaredFields()) {
            boolean isStatic = Modifier.isStatic(field.getModifiers());
            Script.check("final: " + field, !isStatic || Modifier.isFinal(field.getModifiers()), true);
            own += isStatic ? 0 : 1;
        }
        Script.check("few fields: " + type, own <= FIELDS, true);
    }
}
