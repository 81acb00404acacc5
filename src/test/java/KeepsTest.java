/** What a call that goes well leaves as it was: all but what the document says of it. */
public final class KeepsTest {
    /** What is compiled is not the text of now, and SPOT and NAME are told. */
    private static final String[] BEFORE = {"format {c:u1;k:u2;}", "bytes 05 06", "read END 1 10", "bytes 05 06 07",
        "values 7 8 9", "text z"};

    private final String call;
    private int textLength = 1;
    private int fault = -2;
    private String message = "05 06 07";
    private String values = "7 8 9";
    private int least = 3;
    private int most = 3;
    /** What compile() answers for the text. */
    private int mostOfText = 21;

    private KeepsTest(String call) {
        this.call = call;
    }

    public static void main(String[] args) {
        for (String asks : new String[] {"fault() = -2", "size(true) = 3", "size(false) = 3", "value(2) = 9", "real(2) = 4.4E-323",
            "byteAt(2) = 7", "count(0) = 1", "count(3) = 1", "count(5) = 1", "type(0) = 1", "cut(3) = 3", "drop(1, 0) = 3",
            "set(1, 8) = 3"}) {
            new KeepsTest(asks).check();
        }
        textChanges();
        compiledChanges();
        messageChanges();
        valuesChange();
        Script.finish("KeepsTest");
    }

    private static void textChanges() {
        KeepsTest type = new KeepsTest("type(0x78) = 2");
        type.textLength = 2;
        type.fault = 1;
        type.mostOfText = -1;
        type.check();
        KeepsTest clear = new KeepsTest("clear() = 1");
        clear.textLength = 0;
        clear.fault = 0;
        clear.mostOfText = -1;
        clear.check();
    }

    private static void compiledChanges() {
        KeepsTest compile = new KeepsTest("compile() = 21");
        compile.least = 1;
        compile.most = 21;
        compile.check();
    }

    private static void messageChanges() {
        KeepsTest put = new KeepsTest("put(0x0809, 2) = 5");
        put.message = "05 06 07 08 09";
        put.check();
        KeepsTest cut = new KeepsTest("cut(1) = 1");
        cut.message = "05";
        cut.check();
        KeepsTest write = new KeepsTest("write() = throws.IndexOutOfBoundsException\ndrop(2, 1) = 2\nwrite() = 3");
        write.message = "07 00 08";
        write.values = "7 8";
        write.check();
    }

    private static void valuesChange() {
        KeepsTest read = new KeepsTest("read() = 2");
        read.values = "5 1543";
        read.check();
        KeepsTest set = new KeepsTest("set(1, -5) = 3");
        set.values = "7 -5 9";
        set.check();
        KeepsTest more = new KeepsTest("set(3, -5) = 4");
        more.values = "7 8 9 -5";
        more.check();
        KeepsTest drop = new KeepsTest("drop(0, 2) = 1");
        drop.values = "9";
        drop.check();
    }

    private void check() {
        Script.run("only what is told changes: " + call.replace('\n', ','), String.join("\n", BEFORE), call,
                "count(0) = " + textLength, "fault() = " + fault, "message " + message, "holds " + values,
                "count(3) = 1", "count(4) = 10", "count(5) = 1", "size(false) = " + least, "size(true) = " + most,
                "compile() = " + (mostOfText < 0 ? "throws.UnsupportedOperationException" : "" + mostOfText));
    }
}
