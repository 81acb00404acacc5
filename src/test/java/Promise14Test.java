/** drop. */
public final class Promise14Test {
    public static void main(String[] args) {
        Script.run("values are taken out", """
                values 1 2 3 4 5 6 7
                drop(2, 2) = 5
                holds 1 2 5 6 7
                drop(0, 1) = 4
                holds 2 5 6 7
                drop(3, 1) = 3
                holds 2 5 6
                drop(1, 2) = 1
                holds 2
                drop(0, 1) = 0
                holds
                values 1 2 3
                drop(0, 3) = 0
                count(2) = 0
                """);
        Script.run("none of them", """
                drop(0, 0) = 0
                values 1 2
                drop(0, 0) = 2
                drop(1, 0) = 2
                drop(2, 0) = 2
                holds 1 2
                """);
        Script.run("not that many", """
                drop(0, 1) = throws.IndexOutOfBoundsException
                drop(1, 0) = throws.IndexOutOfBoundsException
                drop(-1, 0) = throws.IndexOutOfBoundsException
                drop(-1, 1) = throws.IndexOutOfBoundsException
                drop(0, -1) = throws.IndexOutOfBoundsException
                values 1 2 3
                drop(0, 4) = throws.IndexOutOfBoundsException
                drop(1, 3) = throws.IndexOutOfBoundsException
                drop(2, 2) = throws.IndexOutOfBoundsException
                drop(3, 1) = throws.IndexOutOfBoundsException
                drop(-1, 2) = throws.IndexOutOfBoundsException
                drop(1, -1) = throws.IndexOutOfBoundsException
                drop(3, -1) = throws.IndexOutOfBoundsException
                drop(4, -1) = throws.IndexOutOfBoundsException
                drop(-1, -1) = throws.IndexOutOfBoundsException
                drop(2147483647, 2147483647) = throws.IndexOutOfBoundsException
                drop(2147483647, 1) = throws.IndexOutOfBoundsException
                drop(2, 2147483647) = throws.IndexOutOfBoundsException
                drop(-2147483648, -2147483648) = throws.IndexOutOfBoundsException
                drop(1, -2147483648) = throws.IndexOutOfBoundsException
                holds 1 2 3
                """);
        Script.run("of a full list", """
                values 1*80 2*80
                drop(79, 2) = 158
                holds 1*79 2*79
                drop(157, 1) = 157
                drop(0, 78) = 79
                holds 1 2*78
                """);
        Script.run("nothing else changes", """
                format u1
                bytes 01 02
                values 4 5
                read LEFT 1 -1
                drop(0, 1) = 1
                message 01 02
                count(0) = 2
                count(3) = 1
                count(4) = -1
                count(5) = 1
                """);
        Script.finish("Promise14Test");
    }
}
