import java.util.ArrayList;
import java.util.List;

/**
 * An object answers by what it holds, not by what it did before: each text, message and list of values comes
 * behind each other one, and the answers are those of a new object.
 */
public final class AgainTest {
    private static final String[] TEXTS = {"", "u", "{a:u1;b:*c", "u1", "u1<0", "u1>5", "s1<0", "s2>999", "v4=7", "p3", "f", "d", "z", "r", "{}",
        "{a:{};}", "{a:p3;b:p7;}", "{a:p1>1;}", "{a:d;b:z;c:u1<9;}", "{a:u1;b:r;}", "{a:r;b:u1;}", "{a:u1<9;b:*au2;}", "{a:u1;b:*cu2;}",
        "{a:u1<9;b:/az;}", "{a:u1;b:/a{};}", "{a:u2;b:*au1;}", "{a:u1;b:?a{0:u1;7:z;};}", "{a:u1;b:?a{0:{};};}", "{a:u1;b:?a{1:d;1:f;};}",
        "{a:s1;b:?a{128:f;};}", "{c:u1<4;b:*c{c:p3;d:?c{0:{};1:f;2:z;};};}", "{l:{l:{l:u1>2;k:/lv2;};};}", "*au1", "?a{0:u1;}"};
    private static final String[][] MESSAGES = {{}, {"put(0, 1)"}, {"put(7, 1)"}, {"put(0x0200050006, 5)"}, {"put(0x0102030405060708, 8)"},
        {"put(-1, 8)", "put(-1, 8)", "put(-1, 8)"}};
    private static final long[][] LISTS = {{}, {0}, {7}, {2, 5, 6}, {-1, 3}, {1, 2, 3, 4, 5, 6}};

    private final FormatForge forge = new FormatForge();
    private int calls = 0;

    public static void main(String[] args) {
        for (String before : TEXTS) {
            for (String text : TEXTS) {
                AgainTest again = new AgainTest();
                // Twice, and then the other: whatever may be kept for the next time has been used by it.
                again.compile(before);
                again.compile(before);
                Script.check(text + " behind " + before, again.compile(text), new AgainTest().compile(text));
                Script.check(text + " in use behind " + before, again.use(), used(text));
            }
        }
        messagesAndLists();
        Script.finish("AgainTest");
    }

    private static List<String> used(String text) {
        AgainTest fresh = new AgainTest();
        fresh.compile(text);
        return fresh.use();
    }

    /** A format by which all was read and written before reads and writes all once more. */
    private static void messagesAndLists() {
        for (String text : TEXTS) {
            for (String[] before : MESSAGES) {
                for (String[] message : MESSAGES) {
                    AgainTest again = new AgainTest();
                    again.compile(text);
                    again.read(before);
                    AgainTest fresh = new AgainTest();
                    fresh.compile(text);
                    Script.check("a second message by " + text, again.read(message), fresh.read(message));
                }
            }
            for (long[] before : LISTS) {
                for (long[] list : LISTS) {
                    AgainTest again = new AgainTest();
                    again.compile(text);
                    again.write(before);
                    AgainTest fresh = new AgainTest();
                    fresh.compile(text);
                    Script.check("a second list by " + text, again.write(list), fresh.write(list));
                }
            }
        }
    }

    private String answer(String call) {
        calls++;
        if (calls > Script.CALLS_OF_AN_OBJECT) {
            Script.check("calls of one object", calls, Script.CALLS_OF_AN_OBJECT);
        }
        return Calls.answer(forge, call);
    }

    private List<String> compile(String text) {
        answer("clear()");
        for (int from = 0; from < text.length(); from += 8) {
            answer("type(" + Script.packed(text.substring(from, Math.min(from + 8, text.length()))) + ")");
        }
        return List.of(answer("count(0)"), answer("fault()"), answer("compile()"), answer("count(5)"), answer("size(false)"),
                answer("size(true)"));
    }

    private List<String> use() {
        List<String> answers = new ArrayList<>();
        for (String[] message : MESSAGES) {
            answers.addAll(read(message));
        }
        for (long[] list : LISTS) {
            answers.addAll(write(list));
        }
        return answers;
    }

    /** What was read, or how it stopped: the VALUES that stay then are those from before. */
    private List<String> read(String[] message) {
        answer("cut(0)");
        for (String put : message) {
            answer(put);
        }
        String read = answer("read()");
        return read.startsWith("throws.") ? stopped(read) : all(read, "value");
    }

    private List<String> write(long[] list) {
        answer("drop(0, " + answer("count(2)") + ")");
        for (int i = 0; i < list.length; i++) {
            answer("set(" + i + ", " + list[i] + ")");
        }
        String written = answer("write()");
        boolean tells = written.startsWith("throws.") && !written.contains("IndexOutOfBounds");
        return tells ? stopped(written) : written.startsWith("throws.") ? List.of(written) : all(written, "byteAt");
    }

    private List<String> stopped(String how) {
        return List.of(how, answer("count(3)"), answer("count(4)"));
    }

    private List<String> all(String many, String getter) {
        List<String> all = new ArrayList<>(List.of(many));
        for (int i = 0; i < Integer.parseInt(many); i++) {
            all.add(answer(getter + "(" + i + ")"));
        }
        return all;
    }
}
