/** clear. */
public final class Promise03Test {
    public static void main(String[] args) {
        Script.run("the text becomes empty", """
                clear() = 0
                text {a:u1;}
                clear() = 7
                count(0) = 0
                fault() = 0
                clear() = 0
                type(0x7531) = 2
                fault() = -2
                clear() = 2
                """);
        Script.run("nothing else changes", """
                format {a:u1;}
                bytes 05 06
                values 1 2 3
                read LEFT 1 -1
                clear() = 7
                count(1) = 2
                count(2) = 3
                count(3) = 1
                count(4) = -1
                count(5) = 1
                size(true) = 1
                cut(1) = 1
                reads 5
                """);
        Script.finish("Promise03Test");
    }
}
