/** cut. */
public final class Promise08Test {
    public static void main(String[] args) {
        Script.run("the first bytes stay", """
                bytes 01 02 03 04
                cut(4) = 4
                message 01 02 03 04
                cut(3) = 3
                message 01 02 03
                cut(1) = 1
                message 01
                put(5, 2) = 3
                message 01 00 05
                cut(0) = 0
                message
                cut(0) = 0
                """);
        Script.run("a length out of range", """
                cut(1) = throws.IllegalArgumentException
                cut(-1) = throws.IllegalArgumentException
                bytes 01 02 03
                cut(4) = throws.IllegalArgumentException
                cut(-1) = throws.IllegalArgumentException
                cut(120) = throws.IllegalArgumentException
                cut(2147483647) = throws.IllegalArgumentException
                cut(-2147483648) = throws.IllegalArgumentException
                message 01 02 03
                """);
        Script.run("nothing else changes", """
                format u1
                bytes 01 02
                values 9
                read LEFT 1 -1
                cut(0) = 0
                holds 9
                count(0) = 2
                count(3) = 1
                count(4) = -1
                count(5) = 1
                read END 0 -1
                """);
        Script.finish("Promise08Test");
    }
}
