/** A new object. */
public final class Promise01Test {
    public static void main(String[] args) {
        Script.run("a new object is empty", """
                count(0) = 0
                count(1) = 0
                count(2) = 0
                count(3) = -1
                count(4) = -1
                count(5) = 0
                fault() = 0
                size(true) = throws.NoSuchElementException
                size(false) = throws.NoSuchElementException
                read() = throws.UnsupportedOperationException
                write() = throws.UnsupportedOperationException
                value(0) = throws.IndexOutOfBoundsException
                real(0) = throws.IndexOutOfBoundsException
                byteAt(0) = throws.IndexOutOfBoundsException
                compile() = throws.UnsupportedOperationException
                clear() = 0
                cut(0) = 0
                drop(0, 0) = 0
                """);
        Script.run("objects share nothing", """
                format {a:u1;}
                bytes 07
                reads 7

                count(0) = 0
                count(1) = 0
                count(2) = 0
                count(5) = 0
                """);
        Script.finish("Promise01Test");
    }
}
