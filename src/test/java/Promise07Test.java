/** put. */
public final class Promise07Test {
    public static void main(String[] args) {
        Script.run("the lowest bytes, the highest of them first", """
                put(0x0102030405060708, 8) = 8
                message 01 02 03 04 05 06 07 08
                put(0x0102030405060708, 3) = 11
                message 01 02 03 04 05 06 07 08 06 07 08
                put(-2, 1) = 12
                put(-2, 2) = 14
                message 01 02 03 04 05 06 07 08 06 07 08 fe ff fe
                put(0, 4) = 18
                count(1) = 18

                put(-0x8000000000000000, 8) = 8
                message 80 00 00 00 00 00 00 00
                put(256, 1) = 9
                put(5, 7) = 16
                message 80 00*7 00 00*6 05
                """);
        Script.run("a count out of range", """
                put(1, 0) = throws.IllegalArgumentException
                put(1, 9) = throws.IllegalArgumentException
                put(1, -1) = throws.IllegalArgumentException
                put(1, 2147483647) = throws.IllegalArgumentException
                put(1, -2147483648) = throws.IllegalArgumentException
                count(1) = 0
                put(1, 1) = 1
                """);
        Script.run("at most 120 bytes", """
                bytes 07*116
                put(0x0102030405, 5) = throws.IllegalStateException
                put(1, 8) = throws.IllegalStateException
                count(1) = 116
                put(0x01020304, 4) = 120
                message 07*116 01 02 03 04
                put(1, 1) = throws.IllegalStateException
                put(1, 0) = throws.IllegalArgumentException
                put(1, 9) = throws.IllegalArgumentException
                message 07*116 01 02 03 04
                cut(119) = 119
                put(9, 2) = throws.IllegalStateException
                put(9, 1) = 120
                """);
        Script.run("nothing else changes", """
                format u1
                bytes 01 02
                values 9
                read LEFT 1 -1
                put(3, 1) = 3
                holds 9
                count(0) = 2
                count(3) = 1
                count(4) = -1
                count(5) = 1
                """);
        Script.finish("Promise07Test");
    }
}
