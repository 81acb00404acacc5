/** byteAt. */
public final class Promise15Test {
    public static void main(String[] args) {
        Script.run("a byte is 0 .. 255", """
                put(0x007f80ff01, 5) = 5
                byteAt(0) = 0
                byteAt(1) = 127
                byteAt(2) = 128
                byteAt(3) = 255
                byteAt(4) = 1
                """);
        Script.run("there is none", """
                byteAt(0) = throws.IndexOutOfBoundsException
                bytes 05 06
                byteAt(1) = 6
                byteAt(2) = throws.IndexOutOfBoundsException
                byteAt(-1) = throws.IndexOutOfBoundsException
                byteAt(119) = throws.IndexOutOfBoundsException
                byteAt(120) = throws.IndexOutOfBoundsException
                byteAt(2147483647) = throws.IndexOutOfBoundsException
                byteAt(-2147483648) = throws.IndexOutOfBoundsException
                cut(1) = 1
                byteAt(0) = 5
                byteAt(1) = throws.IndexOutOfBoundsException
                bytes 01*119 09
                byteAt(118) = 1
                byteAt(119) = 9
                byteAt(120) = throws.IndexOutOfBoundsException
                """);
        Script.finish("Promise15Test");
    }
}
