import java.io.IOException;
import java.lang.reflect.Method;
import java.lang.reflect.Modifier;
import java.nio.file.Files;
import java.nio.file.Path;
import java.util.ArrayList;
import java.util.List;
import java.util.Set;
import java.util.TreeSet;
import java.util.regex.Matcher;
import java.util.regex.Pattern;

/** What README.md tells of the class is so; it is run where .ci/run runs it. */
public final class ReadmeTest {
    private static final Pattern EXAMPLE = Pattern.compile("forge\\.(\\w+\\(.*?\\)); +// (-?\\w+): .*");

    public static void main(String[] args) throws IOException {
        String readme = Files.readString(Path.of("README.md"));
        example(between(readme, "```java\n", "```"));
        texts(rows(between(readme, "### The text\n", "### ")));
        calls(rows(between(readme, "### The calls\n", "## ")));
        Script.finish("ReadmeTest");
    }

    private static String between(String text, String before, String behind) {
        int from = text.indexOf(before) + before.length();
        return text.substring(from, text.indexOf(behind, from));
    }

    /** The cells of the tables' rows, without their heads. */
    private static List<String[]> rows(String part) {
        List<String[]> rows = new ArrayList<>();
        for (String line : part.split("\n")) {
            if (line.startsWith("| `")) {
                rows.add(line.substring(1, line.length() - 1).split("\\|", -1));
            }
        }
        return rows;
    }

    private static void example(String code) {
        FormatForge forge = new FormatForge();
        String[] lines = code.split("\n");
        Script.check("README begins with", lines[0], "FormatForge forge = new FormatForge();");
        for (int i = 1; i < lines.length; i++) {
            Matcher matcher = EXAMPLE.matcher(lines[i]);
            Script.check("README tells an answer: " + lines[i], matcher.matches(), true);
            String call = matcher.group(1).replaceAll("\\b(0x\\w+)L\\b", "$1");
            String due = matcher.group(2);
            Script.check("README: " + lines[i], Calls.answer(forge, call), due.endsWith("Exception") ? "throws." + due : due);
        }
    }

    private static void texts(List<String[]> rows) {
        Script.check("README has texts", rows.size() > 9, true);
        for (String[] cells : rows) {
            Texts.haveSizes(Integer.parseInt(cells[2].strip()), Integer.parseInt(cells[3].strip()), between(cells[0], "`", "`"));
        }
    }

    /** Each call of the face is told, with what it throws. */
    private static void calls(List<String[]> rows) {
        Set<String> told = new TreeSet<>();
        for (String[] cells : rows) {
            String name = between(cells[0], "`", "(");
            int many = between(cells[0], "(", ")").isEmpty() ? 0 : between(cells[0], "(", ")").split(", ").length;
            told.add(name + " " + many + " " + exceptions(cells[3]));
        }
        Set<String> face = new TreeSet<>();
        for (Method method : FormatForge.class.getDeclaredMethods()) {
            if (Modifier.isPublic(method.getModifiers())) {
                Set<String> thrown = new TreeSet<>();
                for (Class<?> type : method.getExceptionTypes()) {
                    thrown.add(type.getSimpleName());
                }
                face.add(method.getName() + " " + method.getParameterCount() + " " + thrown);
            }
        }
        Script.check("README tells all calls", told, face);
    }

    private static Set<String> exceptions(String cell) {
        Set<String> exceptions = new TreeSet<>();
        Matcher matcher = Pattern.compile("`(\\w+Exception)`").matcher(cell);
        while (matcher.find()) {
            exceptions.add(matcher.group(1));
        }
        return exceptions;
    }
}
