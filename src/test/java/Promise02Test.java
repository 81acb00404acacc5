/** type. */
public final class Promise02Test {
    public static void main(String[] args) {
        Script.run("signs are put at the text's end, the highest first", """
                type(0x7531) = 2
                fault() = -2
                type(0x3c35) = 4
                fault() = -2
                compile() = 1
                count(0) = 4

                type(0x3175) = 2
                fault() = 0

                type(0x7b613a75313b7d00) = 7
                fault() = -2
                """);
        Script.run("zeros are left out wherever they stand", """
                type(0) = 0
                type(0x0075000031000000) = 2
                fault() = -2
                type(0) = 2
                type(0x3c00000000000039) = 4
                fault() = -2
                """);
        Script.run("signs are of 33 .. 126", """
                type(0x21) = 1
                type(0x7e) = 2
                type(0x217e217e217e217e) = 10
                type(0x20) = throws.IllegalArgumentException
                type(0x7f) = throws.IllegalArgumentException
                type(0x01) = throws.IllegalArgumentException
                type(0x80) = throws.IllegalArgumentException
                type(0xff) = throws.IllegalArgumentException
                type(-1) = throws.IllegalArgumentException
                type(0x7531200000000000) = throws.IllegalArgumentException
                type(0x7531313131313120) = throws.IllegalArgumentException
                type(0x2031313131313131) = throws.IllegalArgumentException
                type(-0x7fffffffffffffff) = throws.IllegalArgumentException
                count(0) = 10
                """);
        Script.run("what throws puts no sign", """
                type(0x75) = 1
                type(0x3120) = throws.IllegalArgumentException
                fault() = 1
                type(0x31) = 2
                fault() = -2
                """);
        Script.run("at most 90 signs", """
                type(0x7b7b7b7b7b7b7b7b) = 8
                type(0x7b7b7b7b7b7b7b7b) = 16
                type(0x7b7b7b7b7b7b7b7b) = 24
                type(0x7b7b7b7b7b7b7b7b) = 32
                type(0x7b7b7b7b7b7b7b7b) = 40
                type(0x7b7b7b7b7b7b7b7b) = 48
                type(0x7b7b7b7b7b7b7b7b) = 56
                type(0x7b7b7b7b7b7b7b7b) = 64
                type(0x7b7b7b7b7b7b7b7b) = 72
                type(0x7b7b7b7b7b7b7b7b) = 80
                type(0x7b7b7b7b7b7b7b7b) = 88
                type(0x7b7b7b) = throws.IllegalStateException
                type(0x7b207b) = throws.IllegalArgumentException
                count(0) = 88
                type(0x7b007b) = 90
                type(0x7b) = throws.IllegalStateException
                type(0x1f) = throws.IllegalArgumentException
                type(0) = 90
                count(0) = 90
                """);
        Script.run("what is compiled stays", """
                format u2
                type(0x3c35) = 4
                size(true) = 2
                count(5) = 1
                bytes 01 00
                reads 256
                type(0x20) = throws.IllegalArgumentException
                reads 256
                """);
        Script.finish("Promise02Test");
    }
}
