/** value. */
public final class Promise11Test {
    public static void main(String[] args) {
        Script.run("there is none", """
                value(0) = throws.IndexOutOfBoundsException
                value(-1) = throws.IndexOutOfBoundsException
                values 5 6
                value(0) = 5
                value(1) = 6
                value(2) = throws.IndexOutOfBoundsException
                value(-1) = throws.IndexOutOfBoundsException
                value(159) = throws.IndexOutOfBoundsException
                value(160) = throws.IndexOutOfBoundsException
                value(2147483647) = throws.IndexOutOfBoundsException
                value(-2147483648) = throws.IndexOutOfBoundsException
                drop(1, 1) = 1
                value(1) = throws.IndexOutOfBoundsException
                """);
        Script.run("every long is held", """
                values -0x8000000000000000 0x7fffffffffffffff -1 0 1
                value(0) = -9223372036854775808
                value(1) = 9223372036854775807
                value(2) = -1
                value(3) = 0
                value(4) = 1
                """);
        Script.run("up to 160", """
                values 3*159 4
                value(158) = 3
                value(159) = 4
                value(160) = throws.IndexOutOfBoundsException
                """);
        Script.finish("Promise11Test");
    }
}
