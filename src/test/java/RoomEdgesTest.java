import java.util.StringJoiner;

/** The MESSAGE's 120 bytes and the 160 VALUES: empty, with one, full, and the calls that look at them. */
public final class RoomEdgesTest {
    private static final int FULL_MESSAGE = 120;
    private static final int FULL_VALUES = 160;
    private static final String OUT = "throws.IndexOutOfBoundsException";
    private static final String ILLEGAL = "throws.IllegalArgumentException";

    public static void main(String[] args) {
        emptyAtFirst();
        putCount1To8();
        putTooLong();
        cutWithinIt();
        byteThereIsNone();
        byteIs0To255();
        valueThereIsNone();
        setWithin();
        set160AreThere();
        dropNotThatMany();
        dropTakesOut();
        countOutOfRange();
        noNumber();
        Script.finish("RoomEdgesTest");
    }

    private static void emptyAtFirst() {
        Script.run("MESSAGE, VALUES: empty at first; SPOT, NAME: -1 at first", """
                count(0) = 0
                count(1) = 0
                count(2) = 0
                count(3) = -1
                count(4) = -1
                count(5) = 0
                byteAt(0) = throws.IndexOutOfBoundsException
                value(0) = throws.IndexOutOfBoundsException
                real(0) = throws.IndexOutOfBoundsException
                cut(0) = 0
                drop(0, 0) = 0
                clear() = 0
                fault() = 0
                """);
    }

    /** Numbers that look the same in a row: 1, 2, 3 .. so many. */
    private static String upTo(int many) {
        StringJoiner row = new StringJoiner(" ");
        for (int i = 1; i <= many; i++) {
            row.add("" + i);
        }
        return row.toString();
    }

    private static String hexUpTo(int many) {
        StringJoiner row = new StringJoiner(" ");
        for (int i = 1; i <= many; i++) {
            row.add(Integer.toHexString(i));
        }
        return row.toString();
    }

    private static void putCount1To8() {
        String[] lowest = {"ef", "cd ef", "ab cd ef", "89 ab cd ef", "67 89 ab cd ef", "45 67 89 ab cd ef",
            "23 45 67 89 ab cd ef", "f1 23 45 67 89 ab cd ef"};
        for (int count = 1; count <= 8; count++) {
            Script.run("the lowest " + count + " bytes of the number",
                    "put(-0xedcba9876543211, " + count + ") = " + count, "message " + lowest[count - 1],
                    "put(-1, " + count + ") = " + 2 * count, "message " + lowest[count - 1] + " ff*" + count,
                    "put(0, " + count + ") = " + 3 * count,
                    "message " + lowest[count - 1] + " ff*" + count + " 00*" + count);
        }
        for (int count : new int[] {0, 9, -1, 10, -8, 256, 257, Integer.MIN_VALUE, Integer.MAX_VALUE}) {
            for (int there : new int[] {0, 1, 112, 119, 120}) {
                Script.run("count 1 .. 8, not " + count,
                        "bytes " + hexUpTo(there), "put(5, " + count + ") = " + ILLEGAL, "count(1) = " + there,
                        "message " + hexUpTo(there));
            }
        }
    }

    private static void putTooLong() {
        for (int count = 1; count <= 8; count++) {
            int fits = FULL_MESSAGE - count;
            Script.run("MESSAGE: at most 120 bytes, the last " + count + " at once",
                    "bytes " + hexUpTo(fits), "put(-1, " + count + ") = 120",
                    "message " + hexUpTo(fits) + " ff*" + count);
            Script.run("too long by one of " + count,
                    "bytes " + hexUpTo(fits + 1), "put(-1, " + count + ") = throws.IllegalStateException",
                    "message " + hexUpTo(fits + 1));
            Script.run("a full message takes none of " + count,
                    "bytes " + hexUpTo(120), "put(-1, " + count + ") = throws.IllegalStateException",
                    "message " + hexUpTo(120));
        }
        for (int count = 2; count <= 8; count++) {
            int there = FULL_MESSAGE + 1 - count;
            Script.run("one fewer fits where " + count + " were too many",
                    "bytes " + hexUpTo(there), "put(-1, " + count + ") = throws.IllegalStateException",
                    "put(-1, " + (count - 1) + ") = 120", "message " + hexUpTo(there) + " ff*" + (count - 1));
        }
    }

    private static void cutWithinIt() {
        for (int there : new int[] {0, 1, 2, 119, 120}) {
            for (int length : new int[] {0, 1, there / 2, there - 1, there}) {
                if (length >= 0 && length <= there) {
                    Script.run("length 0 .. its length: " + length + " of " + there,
                            "bytes " + hexUpTo(there), "cut(" + length + ") = " + length, "message " + hexUpTo(length));
                }
                if (length >= 0 && length < FULL_MESSAGE) {
                    Script.run("what is put then is put at the new end: " + length + " of " + there,
                            "bytes " + hexUpTo(Math.max(length, there)), "cut(" + length + ") = " + length,
                            "put(250, 1) = " + (length + 1), "message " + (hexUpTo(length) + " fa").strip());
                }
            }
            for (int length : new int[] {-1, there + 1, there + 2, 121, Integer.MIN_VALUE, Integer.MAX_VALUE}) {
                Script.run("length not " + length + " of " + there,
                        "bytes " + hexUpTo(there), "cut(" + length + ") = " + ILLEGAL, "message " + hexUpTo(there));
            }
        }
    }

    private static void byteThereIsNone() {
        for (int there : new int[] {0, 1, 119, 120}) {
            Script.run("there is none",
                    "bytes " + hexUpTo(there), "byteAt(-1) = " + OUT, "byteAt(" + there + ") = " + OUT, "byteAt(120) = " + OUT,
                    "byteAt(-2147483648) = " + OUT, "byteAt(2147483647) = " + OUT);
        }
        for (int there : new int[] {1, 119, 120}) {
            Script.run("Byte i of the MESSAGE",
                    "bytes " + hexUpTo(there), "byteAt(0) = 1", "byteAt(" + (there - 1) + ") = " + there);
        }
        Script.run("what was cut off is no more there", """
                bytes 01 02 03
                cut(1) = 1
                byteAt(0) = 1
                byteAt(1) = throws.IndexOutOfBoundsException
                byteAt(2) = throws.IndexOutOfBoundsException
                """);
    }

    private static void byteIs0To255() {
        for (int b = 0; b < 256; b++) {
            Script.run("0 .. 255",
                    "put(" + b + ", 1) = 1", "byteAt(0) = " + b, "put(" + (b - 256) + ", 1) = 2", "byteAt(1) = " + b);
        }
    }

    private static void valueThereIsNone() {
        for (int there : new int[] {0, 1, 159, 160}) {
            for (String getter : new String[] {"value", "real"}) {
                for (int i : new int[] {-1, there, there + 1, 160, Integer.MIN_VALUE, Integer.MAX_VALUE}) {
                    Script.run("there is none", "values " + upTo(there), getter + "(" + i + ") = " + OUT);
                }
            }
        }
        for (int there : new int[] {1, 159, 160}) {
            Script.run("VALUE i, and as a double",
                    "values " + upTo(there), "value(0) = 1", "value(" + (there - 1) + ") = " + there, "real(0) = 4.9E-324",
                    "real(" + (there - 1) + ") = " + Double.longBitsToDouble(there));
        }
        Script.run("what was dropped is no more there", """
                values 1 2 3
                drop(0, 2) = 1
                value(0) = 3
                value(1) = throws.IndexOutOfBoundsException
                real(1) = throws.IndexOutOfBoundsException
                """);
    }

    private static void setWithin() {
        for (int there : new int[] {0, 1, 2, 159, 160}) {
            for (int i : new int[] {-1, there + 1, there + 2, 161, Integer.MIN_VALUE, Integer.MAX_VALUE}) {
                Script.run("VALUE i 0 .. how many there are, not " + i,
                        "values " + upTo(there), "set(" + i + ", 7) = " + ILLEGAL, "holds " + upTo(there));
            }
            if (there > 0) {
                Script.run("VALUE i becomes v",
                        "values " + upTo(there), "set(0, -7) = " + there, "value(0) = -7",
                        "set(" + (there - 1) + ", -8) = " + there, "value(" + (there - 1) + ") = -8",
                        "count(2) = " + there);
            }
            if (there < FULL_VALUES) {
                Script.run("i is that: one more",
                        "values " + upTo(there), "set(" + there + ", -7) = " + (there + 1),
                        "holds " + (upTo(there) + " -7").strip());
            }
        }
    }

    private static void set160AreThere() {
        Script.run("159 are there: one more",
                "values " + upTo(159), "set(159, 7) = 160", "value(159) = 7", "value(158) = 159");
        Script.run("160 are there",
                "values " + upTo(160), "set(160, 7) = throws.IllegalStateException", "holds " + upTo(160));
        Script.run("160 are there: others", "values " + upTo(160) + """

                set(161, 7) = throws.IllegalArgumentException
                set(159, 7) = 160
                value(159) = 7
                drop(159, 1) = 159
                set(160, 7) = throws.IllegalArgumentException
                set(159, 8) = 160
                set(160, 9) = throws.IllegalStateException
                value(159) = 8
                """);
    }

    private static void dropNotThatMany() {
        for (int there : new int[] {0, 1, 2, 160}) {
            int[][] refused = {{0, there + 1}, {there, 1}, {there + 1, 0}, {there - 1, 2}, {-1, 1}, {-1, 0}, {0, -1}, {there, -1},
                {1, Integer.MAX_VALUE}, {Integer.MAX_VALUE, 1}, {Integer.MAX_VALUE, Integer.MAX_VALUE}, {0, Integer.MAX_VALUE},
                {Integer.MIN_VALUE, 0}, {0, Integer.MIN_VALUE}, {Integer.MIN_VALUE, Integer.MIN_VALUE}, {-1, Integer.MIN_VALUE},
                {Integer.MIN_VALUE, Integer.MAX_VALUE}, {-1, 2}};
            for (int[] pair : refused) {
                Script.run("not that many of " + there,
                        "values " + upTo(there), "drop(" + pair[0] + ", " + pair[1] + ") = " + OUT,
                        "holds " + upTo(there));
            }
        }
    }

    private static void dropTakesOut() {
        for (int there : new int[] {0, 1, 2, 5, 160}) {
            for (int i : new int[] {0, 1, there / 2, there - 1, there}) {
                for (int n : new int[] {0, 1, there / 2, there - i}) {
                    if (i >= 0 && n >= 0 && i + n <= there) {
                        StringJoiner left = new StringJoiner(" ");
                        for (int v = 1; v <= there; v++) {
                            if (v <= i || v > i + n) {
                                left.add("" + v);
                            }
                        }
                        Script.run("from " + i + " on, " + n + " of " + there,
                                "values " + upTo(there), "drop(" + i + ", " + n + ") = " + (there - n),
                                "holds " + left);
                    }
                }
            }
        }
    }

    private static void countOutOfRange() {
        for (int what : new int[] {-1, 6, 7, 256, Integer.MIN_VALUE, Integer.MAX_VALUE}) {
            Script.run("a number out of range: " + what,
                    "count(" + what + ") = " + ILLEGAL, "count(0) = 0", "count(5) = 0");
        }
    }

    private static void noNumber() {
        Script.run("what is NO NUMBER is 0.0, next to it the infinite ones", """
                values 0x7ff0000000000001 0x7ff0000000000000 0x7fefffffffffffff 0x7fffffffffffffff
                real(0) = 0.0
                real(1) = Infinity
                real(2) = 1.7976931348623157E308
                real(3) = 0.0
                values -0xfffffffffffff -0x10000000000000 -0x10000000000001 -1
                real(0) = 0.0
                real(1) = -Infinity
                real(2) = -1.7976931348623157E308
                real(3) = 0.0
                value(3) = -1
                values 0 1 -0x8000000000000000 -0x7fffffffffffffff 0xfffffffffffff 0x10000000000000
                real(0) = 0.0
                real(1) = 4.9E-324
                real(2) = -0.0
                real(3) = -4.9E-324
                real(4) = 2.225073858507201E-308
                real(5) = 2.2250738585072014E-308
                """);
    }
}
