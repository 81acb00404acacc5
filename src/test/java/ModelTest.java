import java.util.Map;
import java.util.TreeMap;

/** Compares random runs of calls with the second writing of the document. */
public final class ModelTest {
    private static final int RUNS = 4000;
    private static final int CALLS = 512;

    private final Dice dice;
    private final FormatForge forge = new FormatForge();
    private final Model model = new Model();
    private final StringBuilder run = new StringBuilder();
    private final Map<String, Integer> outcomes;
    private int calls = 0;
    private boolean differs = false;

    private ModelTest(long seed, Map<String, Integer> outcomes) {
        dice = new Dice(seed);
        this.outcomes = outcomes;
    }

    public static void main(String[] args) {
        Map<String, Integer> outcomes = new TreeMap<>();
        int wrong = 0;
        for (long seed = 1; seed <= RUNS && wrong < 10; seed++) {
            ModelTest test = new ModelTest(seed, outcomes);
            test.go();
            wrong += test.differs ? 1 : 0;
            Script.check("run " + seed + " differs from the model", test.differs, false);
        }
        if (args.length > 0) {
            System.out.println(outcomes);
        }
        Script.finish("ModelTest");
    }

    private void go() {
        while (calls < CALLS && !differs) {
            compileSome();
            int rounds = model.count(5) == 1 ? 1 + dice.next(9) : dice.next(3);
            for (int k = 0; k < rounds; k++) {
                switch (dice.next(8)) {
                    case 0, 1, 2 -> readSome();
                    case 3, 4, 5 -> writeSome();
                    case 6 -> oddCall();
                    default -> lookAtAll();
                }
            }
        }
    }

    private String call(String call) {
        if (differs || calls >= CALLS) {
            return "";
        }
        calls++;
        String want = Calls.answer(model, call);
        String got = Calls.answer(forge, call);
        run.append(call).append(" = ").append(want).append('\n');
        outcomes.merge(call.substring(0, call.indexOf('(')) + (want.startsWith("t") ? " " + want : ""), 1, Integer::sum);
        if (!got.equals(want)) {
            differs = true;
            System.out.println("FormatForge answers " + got + " at the end of this run:\n" + run);
        }
        return want;
    }

    private void compileSome() {
        String text = RandomText.of(dice);
        run.append("-- ").append(text).append('\n');
        call("clear()");
        for (int from = 0; from < text.length(); ) {
            int end = Math.min(text.length(), from + 5 + dice.next(4));
            call("type(" + Script.packed(text.substring(from, end)) + ")");
            from = end;
            if (dice.oneIn(10)) {
                call("fault()");
            }
        }
        call("fault()");
        call("compile()");
        call("size(false)");
        call("size(true)");
        call("count(5)");
    }

    private void putSome(int many) {
        for (int k = 0; k < many; k++) {
            int count = 1 + dice.next(8);
            long bytes = 0;
            for (int i = 0; i < 8; i++) {
                bytes = bytes << 8 | someByte();
            }
            call("put(" + bytes + ", " + count + ")");
        }
    }

    private long someByte() {
        return dice.oneIn(3) ? 0 : dice.oneIn(2) ? dice.next(5) : dice.oneIn(2) ? dice.next(8) << 5 : dice.next(256);
    }

    private void readSome() {
        if (dice.oneIn(2)) {
            call("cut(0)");
        }
        putSome(dice.oneIn(9) ? 25 : dice.next(6));
        for (int k = 0; k < 8; k++) {
            String answer = call("read()");
            if (answer.endsWith("IndexOutOfBoundsException")) {
                call("cut(" + call("count(3)") + ")");
            } else if (answer.endsWith("NoSuchElementException")) {
                call("count(3)");
                putSome(1);
            } else if (answer.endsWith("IllegalStateException")) {
                call("cut(" + call("count(3)") + ")");
                call("count(4)");
                putSome(1);
            } else {
                break;
            }
        }
        if (dice.oneIn(2)) {
            call("write()");
        }
        lookAtAll();
    }

    private void writeSome() {
        if (dice.oneIn(4)) {
            call("drop(0, " + model.count(2) + ")");
        }
        for (int k = 0; k < 12; k++) {
            String answer = call("write()");
            call("count(3)");
            call("count(4)");
            int many = model.count(2);
            if (answer.endsWith("NoSuchElementException") || many == 0) {
                call("set(" + many + ", " + someValue() + ")");
            } else if (answer.endsWith("IndexOutOfBoundsException")) {
                int n = 1 + dice.next(Math.min(many, 4));
                call("drop(" + (many - n) + ", " + n + ")");
            } else {
                call("set(" + (dice.oneIn(2) ? dice.next(many) : many - 1) + ", " + someValue() + ")");
            }
        }
        if (dice.oneIn(2)) {
            call("read()");
        }
        lookAtAll();
    }

    private long someValue() {
        switch (dice.next(8)) {
            case 0:
                return dice.nextLong();
            case 1:
                return (1L << dice.next(64)) - dice.next(2);
            case 2:
                return -dice.next(200);
            case 3:
                return dice.next(300);
            default:
                return dice.next(5);
        }
    }

    private void oddCall() {
        int odd = dice.oneIn(4) ? (int) dice.nextLong() : dice.next(170) - 5;
        switch (dice.next(9)) {
            case 0 -> call("put(" + dice.nextLong() + ", " + (dice.next(14) - 2) + ")");
            case 1 -> call("cut(" + odd + ")");
            case 2 -> call("value(" + odd + ")");
            case 3 -> call("real(" + odd + ")");
            case 4 -> call("set(" + odd + ", " + someValue() + ")");
            case 5 -> call("drop(" + odd + ", " + (dice.oneIn(5) ? (int) dice.nextLong() : dice.next(12) - 3) + ")");
            case 6 -> call("byteAt(" + odd + ")");
            case 7 -> call("count(" + (dice.next(10) - 2) + ")");
            default -> call("type(" + (dice.oneIn(2) ? dice.nextLong() : dice.next(300)) + ")");
        }
    }

    private void lookAtAll() {
        for (int what = 0; what <= 5; what++) {
            call("count(" + what + ")");
        }
        for (int i = 0; i < model.count(2); i++) {
            call("value(" + i + ")");
        }
        for (int i = 0; i < model.count(1); i++) {
            call("byteAt(" + i + ")");
        }
        if (model.count(2) > 0) {
            call("real(" + dice.next(model.count(2)) + ")");
        }
    }
}
