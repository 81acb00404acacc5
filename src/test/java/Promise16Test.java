/** count. */
public final class Promise16Test {
    public static void main(String[] args) {
        Script.run("each number has its own meaning", """
                format {a:u1;b:u1;l:u1;}
                bytes 01 02
                values 4 5 6 7
                count(0) = 17
                count(1) = 2
                count(2) = 4
                count(3) = -1
                count(4) = -1
                count(5) = 1
                read END 2 11
                count(0) = 17
                count(1) = 2
                count(2) = 4
                count(3) = 2
                count(4) = 11
                count(5) = 1
                text u
                compile() = throws.UnsupportedOperationException
                count(5) = 0
                count(3) = 2
                count(4) = 11
                """);
        Script.run("a number out of range", """
                count(6) = throws.IllegalArgumentException
                count(-1) = throws.IllegalArgumentException
                count(2147483647) = throws.IllegalArgumentException
                count(-2147483648) = throws.IllegalArgumentException
                """);
        Script.run("what stops is told, what goes well leaves it", """
                format {a:u1;b:u1<9;}
                bytes 05
                read END 1 1
                put(9, 1) = 2
                read WRONG 1 1
                cut(1) = 1
                put(0x0707, 2) = 3
                read LEFT 2 -1
                cut(2) = 2
                reads 5 7
                count(3) = 2
                count(4) = -1
                values 500
                write WRONG 0 0
                values 5
                write END 1 1
                values 5 6 7
                write LEFT 1 1
                values 5 6
                writes 05 06
                count(3) = 1
                count(4) = 1
                """);
        Script.finish("Promise16Test");
    }
}
