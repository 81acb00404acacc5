/** set. */
public final class Promise13Test {
    public static void main(String[] args) {
        Script.run("a value becomes another, or is one more", """
                set(0, 7) = 1
                set(1, -8) = 2
                set(0, 9) = 2
                holds 9 -8
                set(1, 0x7fffffffffffffff) = 2
                set(2, -0x8000000000000000) = 3
                holds 9 9223372036854775807 -9223372036854775808
                count(2) = 3
                """);
        Script.run("a place out of range", """
                set(1, 5) = throws.IllegalArgumentException
                set(-1, 5) = throws.IllegalArgumentException
                values 1 2
                set(3, 5) = throws.IllegalArgumentException
                set(-1, 5) = throws.IllegalArgumentException
                set(160, 5) = throws.IllegalArgumentException
                set(2147483647, 5) = throws.IllegalArgumentException
                set(-2147483648, 5) = throws.IllegalArgumentException
                holds 1 2
                """);
        Script.run("at most 160", """
                values 1*159
                set(159, 2) = 160
                set(160, 3) = throws.IllegalStateException
                set(161, 3) = throws.IllegalArgumentException
                set(-1, 3) = throws.IllegalArgumentException
                holds 1*159 2
                set(159, 4) = 160
                set(0, 5) = 160
                holds 5 1*158 4

                values 5 1*158 4
                drop(0, 1) = 159
                set(159, 6) = 160
                holds 1*158 4 6
                """);
        Script.run("nothing else changes", """
                format u1
                bytes 01 02
                read LEFT 1 -1
                set(0, 5) = 1
                message 01 02
                count(0) = 2
                count(3) = 1
                count(4) = -1
                count(5) = 1
                """);
        Script.finish("Promise13Test");
    }
}
