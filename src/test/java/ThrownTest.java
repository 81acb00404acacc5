/**
 * What is thrown, and which of two. That nothing else is changed then is looked at behind each call that
 * throws, see {@link After}; here it also shows in what comes next.
 */
public final class ThrownTest {
    public static void main(String[] args) {
        numberOutOfRangeFirst();
        wholeBeforeSound();
        compiledBeforeAllElse();
        goesOnAsIfItHadNotBeen();
        Script.finish("ThrownTest");
    }

    private static void numberOutOfRangeFirst() {
        String full = "text " + "u".repeat(90) + "\n";
        Script.run("type: a number out of range, first", full + """
                type(0x20) = throws.IllegalArgumentException
                type(0x7520) = throws.IllegalArgumentException
                type(0x2075) = throws.IllegalArgumentException
                type(0x7f) = throws.IllegalArgumentException
                type(-1) = throws.IllegalArgumentException
                type(0x75) = throws.IllegalStateException
                count(0) = 90
                """);
        Script.run("type: where some signs would fit", "text " + "u".repeat(88) + """

                type(0x757575) = throws.IllegalStateException
                type(0x757520) = throws.IllegalArgumentException
                type(0x757575757520) = throws.IllegalArgumentException
                count(0) = 88
                type(0x7575) = 90
                """);
        Script.run("put: a number out of range, first", """
                bytes 01*120
                put(5, 0) = throws.IllegalArgumentException
                put(5, 9) = throws.IllegalArgumentException
                put(5, -1) = throws.IllegalArgumentException
                put(5, 1) = throws.IllegalStateException
                put(5, 8) = throws.IllegalStateException
                count(1) = 120
                """);
        Script.run("set: a number out of range, first", """
                values 1*160
                set(161, 5) = throws.IllegalArgumentException
                set(-1, 5) = throws.IllegalArgumentException
                set(160, 5) = throws.IllegalStateException
                count(2) = 160
                """);
    }

    private static void wholeBeforeSound() {
        for (String text : new String[] {"p1:", "{a:p1<0;", "*au1u", "{a:r;b:u1;};", "u1<0<", "{a:u4;b:*au4;"}) {
            Script.run("compile: no whole TYPE, and not sound",
                    "text " + text, "compile() = throws.UnsupportedOperationException");
        }
        for (String text : new String[] {"p1", "{a:p1<0;}", "*au1", "{a:r;b:u1;}", "u1<0", "{a:u4;b:*au4;}"}) {
            Script.run("compile: a whole TYPE, not sound",
                    "text " + text, "fault() = -2", "compile() = throws.IllegalStateException");
        }
    }

    private static void compiledBeforeAllElse() {
        Script.run("nothing is compiled, whatever there is to read or to write", """
                read() = throws.UnsupportedOperationException
                write() = throws.UnsupportedOperationException
                size(true) = throws.NoSuchElementException
                size(false) = throws.NoSuchElementException
                bytes 01 02
                values 300
                text u1
                read() = throws.UnsupportedOperationException
                write() = throws.UnsupportedOperationException
                size(true) = throws.NoSuchElementException
                count(3) = -1
                count(4) = -1
                compile() = 1
                read LEFT 1 -1
                write WRONG 0 -1
                size(true) = 1
                """);
    }

    private static void goesOnAsIfItHadNotBeen() {
        Script.run("all calls that throw, in the midst of what goes well", """
                type(0x7b613a75313c3900) = 7
                type(0x7f00) = throws.IllegalArgumentException
                compile() = throws.UnsupportedOperationException
                type(0x3b623a2a613c6175) = 15
                fault() = 12
                clear() = 15
                type(0x7b613a75313c393b) = 8
                type(0x623a2a6175317d20) = throws.IllegalArgumentException
                type(0x623a2a6175313b7d) = 16
                fault() = -2
                compile() = 9
                count(6) = throws.IllegalArgumentException
                put(0x0205, 2) = 2
                put(0x06, 0) = throws.IllegalArgumentException
                read END 2 1
                put(0x06, 1) = 3
                cut(4) = throws.IllegalArgumentException
                reads 2 5 6
                set(4, 7) = throws.IllegalArgumentException
                value(3) = throws.IndexOutOfBoundsException
                real(3) = throws.IndexOutOfBoundsException
                byteAt(3) = throws.IndexOutOfBoundsException
                set(3, 7) = 4
                write LEFT 2 1
                drop(3, 2) = throws.IndexOutOfBoundsException
                set(0, 9) = 4
                write WRONG 0 0
                set(0, 3) = 4
                writes 03 05 06 07
                holds 3 5 6 7
                drop(0, 4) = 0
                write END 0 0
                reads 3 5 6 7
                cut(3) = 3
                read END 3 1
                size(false) = 1
                size(true) = 9
                """);
    }
}
