import java.util.ArrayList;
import java.util.List;

/** "An object is used for at most 512 calls": the last of them answers as the first. */
public final class CallsTest {
    private static final int CALLS = 512;
    /** These make a format, a message and values; what follows goes on with them. */
    private static final String[] FIRST = {"clear() = 0", "type(0x7b613a75313b623a) = 8", "type(0x2a6175313b7d) = 14", "compile() = 256",
        "put(0x03070809, 4) = 4", "read() = 4"};

    public static void main(String[] args) {
        again("count(2) = 4");
        again("fault() = -2");
        again("compile() = 256");
        again("size(true) = 256", "size(false) = 1");
        again("read() = 4", "value(3) = 9", "write() = 4", "byteAt(3) = 9");
        again("real(0) = 1.5E-323");
        again("type(0) = 14", "clear() = 14", "type(0x7b613a75313b623a) = 8", "type(0x2a6175313b7d) = 14");
        again("cut(3) = 3", "put(9, 1) = 4");
        again("set(3, 9) = 4", "set(4, 9) = 5", "drop(4, 1) = 4");
        again("cut(3) = 3", "read() = throws.NoSuchElementException", "put(9, 1) = 4", "count(3) = 3", "read() = 4");
        again("clear() = 14", "compile() = throws.UnsupportedOperationException", "read() = throws.UnsupportedOperationException",
                "type(0x7b613a75313b623a) = 8", "type(0x2a6175313b7d) = 14", "compile() = 256");
        Script.finish("CallsTest");
    }

    private static void again(String... calls) {
        List<String> all = new ArrayList<>(List.of(FIRST));
        for (int k = 0; all.size() < CALLS; k++) {
            all.add(calls[k % calls.length]);
        }
        FormatForge forge = new FormatForge();
        for (int k = 0; k < CALLS; k++) {
            String[] sides = all.get(k).split(" = ");
            Script.check("call " + (k + 1) + ": " + sides[0], Calls.answer(forge, sides[0]), sides[1]);
        }
    }
}
