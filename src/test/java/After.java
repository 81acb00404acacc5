import java.util.ArrayList;
import java.util.List;

/**
 * What is there after a call that threw: "A call that throws changes nothing, but as said." Said is that
 * nothing is compiled after compile(), and that read() and write() tell SPOT and NAME.
 */
final class After {
    private static final String[] COMPILED = {"count(5)", "size(false)", "size(true)"};
    private static final String[] TOLD = {"count(3)", "count(4)"};
    private static final String[] PASSED = {"read()", "count(2)", "write()", "count(1)"};
    private static final List<String> NOTHING_COMPILED = List.of("count(5) = 0",
            "size(false) = throws.NoSuchElementException", "size(true) = throws.NoSuchElementException",
            "read() = throws.UnsupportedOperationException", "write() = throws.UnsupportedOperationException");

    private final FormatForge forge = new FormatForge();
    private final List<String> seen = new ArrayList<>();
    private int callsLeft = Script.CALLS_OF_AN_OBJECT;

    private After(List<String> before) {
        for (String call : before) {
            answer(call);
        }
    }

    /** Compares an object that took the call with one that took only the calls before it. */
    static void check(String what, List<String> before, String thrower) {
        After with = new After(before);
        with.answer(thrower);
        with.lookAtAll(thrower);
        After without = new After(before);
        without.callsLeft--;
        without.lookAtAll(thrower);
        Script.check(what, with.seen, without.seen);
        if (thrower.equals("compile()")) {
            After nothing = new After(before);
            nothing.answer(thrower);
            nothing.look("count(5)", "size(false)", "size(true)", "read()", "write()");
            Script.check(what, nothing.seen, NOTHING_COMPILED.subList(0, nothing.seen.size()));
        }
    }

    private String answer(String call) {
        callsLeft--;
        return Calls.answer(forge, call);
    }

    private void lookAtAll(String thrower) {
        boolean unbinds = thrower.equals("compile()");
        look("count(0)", "count(1)", "count(2)", "fault()");
        if (!unbinds) {
            look(COMPILED);
        }
        if (!thrower.equals("read()") && !thrower.equals("write()")) {
            look(TOLD);
        }
        lookAtEach("value", 2);
        lookAtEach("byteAt", 1);
        if (!unbinds) {
            look(PASSED);
        }
        // What signs the text has can only be told by what comes of it.
        look("compile()", "size(false)", "size(true)");
    }

    private void look(String... calls) {
        for (String call : calls) {
            if (callsLeft > 0) {
                seen.add(call + " = " + answer(call));
            }
        }
    }

    private void lookAtEach(String getter, int counter) {
        int many = callsLeft > 0 ? Integer.parseInt(answer("count(" + counter + ")")) : 0;
        for (int i = 0; i < many; i++) {
            look(getter + "(" + i + ")");
        }
    }
}
