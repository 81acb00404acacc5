import java.util.ArrayList;
import java.util.Arrays;
import java.util.List;
import java.util.Locale;

/**
 * Runs of calls on a new object, told by lines of text. After each call that is due to throw the whole
 * state is looked at too: it must be as without that call, but for what the document says ({@link After}).
 * The lines are:
 *
 * <pre>
 * CALL = ANSWER        as in: put(5, 9) = throws.IllegalArgumentException
 * text SIGNS           the text becomes this
 * format SIGNS         likewise, and it is compiled, which must go well
 * bytes HEX ..         the MESSAGE becomes these
 * values NUMBER ..     the VALUES become these
 * holds NUMBER ..      the VALUES are these
 * message HEX ..       the MESSAGE is these
 * reads NUMBER ..      read() goes well and the VALUES are these
 * writes HEX ..        write() goes well and the MESSAGE is these
 * read END SPOT NAME   read() stops so (END, WRONG or LEFT) and nothing else is changed
 * write END SPOT NAME  likewise
 * </pre>
 *
 * "7*3" stands for three times 7. An empty line begins a new object, since one is for 512 calls only.
 * What is not as due is printed and counted.
 */
final class Script {
    private static int checks = 0;
    private static int wrong = 0;

    static final int CALLS_OF_AN_OBJECT = 512;

    private final String title;
    private FormatForge forge = new FormatForge();
    private final List<String> calls = new ArrayList<>();

    private Script(String title) {
        this.title = title;
    }

    static void run(String title, String... lines) {
        Script script = new Script(title);
        for (String line : String.join("\n", lines).split("\n")) {
            script.step(line.strip());
            check(title + ": calls of one object up to " + line, script.calls.size() <= CALLS_OF_AN_OBJECT, true);
        }
    }

    static void check(String what, Object got, Object want) {
        checks++;
        if (!got.equals(want)) {
            wrong++;
            System.out.println(what + ": answered " + got + ", due is " + want);
        }
    }

    /** To be called at the end of each main method. */
    static void finish(String test) {
        System.out.println(test + ": " + checks + " answers looked at, " + wrong + " not as due");
        if (wrong > 0 || checks == 0) {
            System.exit(1);
        }
    }

    private void step(String line) {
        String[] words = line.split("\\s+");
        String rest = line.substring(words[0].length()).strip();
        switch (words[0]) {
            case "":
                forge = new FormatForge();
                calls.clear();
                break;
            case "text":
                becomeText(rest);
                break;
            case "format":
                becomeText(rest);
                due(line + " - fault()", "-2");
                check(title + ": " + line, answer("compile()").matches("\\d+"), true);
                break;
            case "bytes":
                becomeMessage(hexBytes(rest));
                break;
            case "values":
                becomeValues(numbers(rest));
                break;
            case "holds":
                check(title + ": " + line, all("value", 2), words(numbers(rest)));
                break;
            case "message":
                check(title + ": " + line, all("byteAt", 1), words(hexBytes(rest)));
                break;
            case "reads":
                due(line + " - read()", "" + numbers(rest).size());
                check(title + ": " + line, all("value", 2), words(numbers(rest)));
                break;
            case "writes":
                due(line + " - write()", "" + hexBytes(rest).size());
                check(title + ": " + line, all("byteAt", 1), words(hexBytes(rest)));
                break;
            case "read":
            case "write":
                stops(line, words[0], words[1], words[2], words[3]);
                break;
            default:
                String[] sides = line.split(" = ");
                due(sides[0], sides[1]);
        }
    }

    private String answer(String call) {
        calls.add(call);
        return Calls.answer(forge, call);
    }

    private void due(String call, String want) {
        String bare = call.contains(" - ") ? call.substring(call.indexOf(" - ") + 3) : call;
        List<String> before = new ArrayList<>(calls);
        check(title + ": " + call, answer(bare), want);
        if (want.startsWith("throws.")) {
            After.check(title + ": after " + call, before, bare);
        }
    }

    private void stops(String line, String way, String how, String spot, String name) {
        String exception = how.equals("END") ? "NoSuchElementException"
                : how.equals("WRONG") ? "IllegalStateException" : "IndexOutOfBoundsException";
        due(line + " - " + way + "()", "throws." + exception);
        due(line + " - count(3)", spot);
        due(line + " - count(4)", name);
    }

    private List<String> all(String getter, int counter) {
        List<String> all = new ArrayList<>();
        int many = Integer.parseInt(answer("count(" + counter + ")"));
        for (int i = 0; i < many; i++) {
            all.add(answer(getter + "(" + i + ")"));
        }
        return all;
    }

    private void becomeText(String signs) {
        answer("clear()");
        for (int i = 0; i < signs.length(); i += 8) {
            String end = signs.substring(0, Math.min(i + 8, signs.length()));
            check(title + ": signs of " + end, answer("type(" + packed(end.substring(i)) + ")"), "" + end.length());
        }
    }

    private void becomeMessage(List<Integer> bytes) {
        answer("cut(0)");
        for (int i = 0; i < bytes.size(); ) {
            int count = Math.min(8, bytes.size() - i);
            long packed = 0;
            for (int end = i + count; i < end; i++) {
                packed = packed << 8 | bytes.get(i);
            }
            answer("put(" + packed + ", " + count + ")");
        }
    }

    private void becomeValues(List<Long> values) {
        answer("drop(0, " + answer("count(2)") + ")");
        for (int i = 0; i < values.size(); i++) {
            answer("set(" + i + ", " + values.get(i) + ")");
        }
    }

    /** At most eight signs as the number that type() takes. */
    static long packed(String signs) {
        long packed = 0;
        for (char sign : signs.toCharArray()) {
            packed = packed << 8 | sign;
        }
        return packed;
    }

    private static List<String> words(List<?> numbers) {
        List<String> words = new ArrayList<>();
        for (Object number : numbers) {
            words.add("" + number);
        }
        return words;
    }

    private static List<Long> numbers(String words) {
        List<Long> numbers = new ArrayList<>();
        for (String word : spread(words)) {
            numbers.add(Long.decode(word));
        }
        return numbers;
    }

    private static List<Integer> hexBytes(String words) {
        List<Integer> bytes = new ArrayList<>();
        for (String word : spread(words)) {
            bytes.add(Integer.parseInt(word.toLowerCase(Locale.ROOT), 16));
        }
        return bytes;
    }

    private static List<String> spread(String words) {
        List<String> all = new ArrayList<>();
        for (String word : words.isEmpty() ? List.<String>of() : Arrays.asList(words.split("\\s+"))) {
            String[] parts = word.split("\\*");
            int times = parts.length > 1 ? Integer.parseInt(parts[1]) : 1;
            for (int k = 0; k < times; k++) {
                all.add(parts[0]);
            }
        }
        return all;
    }
}
