/** read, and with it what READING does. */
public final class Promise09Test {
    public static void main(String[] args) {
        numbers();
        bits();
        restsOfBytes();
        floats();
        words();
        rest();
        counted();
        sized();
        choices();
        latestValues();
        tooManyValues();
        spotAndName();
        whatComesOfIt();
        Script.finish("Promise09Test");
    }

    private static void numbers() {
        Script.run("numbers, the highest byte first, or the lowest", """
                format {a:u1;b:u2;c:u3;d:u4;e:v1;f:v2;g:v3;h:v4;}
                bytes 80 81 02 83 04 05 86 07 08 09 8a 0b 8d 0d 0e 8f 10 11 12 93
                reads 128 33026 8586245 2248607753 138 36107 9375245 2467434768
                format {a:s1;b:s2;c:s3;d:s4;}
                bytes ff ff fe ff fe fd ff fe fd fc
                reads -1 -2 -259 -66052
                bytes 7f 7f ff 7f ff ff 7f ff ff ff
                reads 127 32767 8388607 2147483647
                bytes 80 80 00 80 00 00 80 00 00 00
                reads -128 -32768 -8388608 -2147483648
                format {a:u4;b:v4;}
                bytes ff ff ff ff ff ff ff ff
                reads 4294967295 4294967295
                """);
        Script.run("numbers of a limited interval", """
                format u1<5
                bytes 04
                reads 4
                bytes 05
                read WRONG 0 -1
                bytes ff
                read WRONG 0 -1
                format u1>5
                bytes 06
                reads 6
                bytes 05
                read WRONG 0 -1
                format u2=5
                bytes 00 05
                reads 5
                bytes 00 04
                read WRONG 0 -1
                bytes 00 06
                read WRONG 0 -1
                format s1<5
                bytes 80
                reads -128
                bytes 04
                reads 4
                bytes 05
                read WRONG 0 -1
                format s2>999
                bytes 03 e8
                reads 1000
                bytes 03 e7
                read WRONG 0 -1
                bytes ff ff
                read WRONG 0 -1
                format v2=258
                bytes 02 01
                reads 258
                bytes 01 02
                read WRONG 0 -1
                """);
        Script.run("numbers whose bytes are not there", """
                format u1
                read END 0 -1
                format u4=1
                bytes 00 00 01
                read END 0 -1
                format v3
                bytes 01 02
                read END 0 -1
                format s2
                bytes ff
                read END 0 -1
                """);
    }

    private static void bits() {
        Script.run("bits, a byte's highest first", """
                format {a:p1;b:p2;c:p5;}
                bytes a3
                reads 1 1 3
                bytes 7c
                reads 0 3 28
                format {a:p7;b:p7;c:p2;}
                bytes fe 07
                reads 127 1 3
                bytes 01 fc
                reads 0 127 0
                format {a:p6;b:p5;c:p7;d:p6;e:u1;}
                bytes 04 7f c1 ff
                reads 1 3 127 1 255
                """);
        Script.run("another type parts them", """
                format {a:p4;b:u1;c:p4;}
                bytes 50 ff a0
                reads 5 255 10
                format {a:p4;b:{};c:p4;}
                bytes 50 a0
                reads 5 10
                format {a:p4;b:{c:p4;};d:p4;}
                bytes 50 a0 30
                reads 5 10 3
                format {a:p4;b:{c:{};};d:p4;e:p4;}
                bytes 50 a3
                reads 5 10 3
                format {a:p1;b:*a{c:p2;d:p2;};e:p3;}
                bytes 80 b0 e0
                reads 1 2 3 7
                bytes 00 e0
                reads 0 7
                format {a:p2;b:*a{c:p2;};}
                bytes c0 c0 80 40
                reads 3 3 2 1
                """);
        Script.run("bits of a limited interval and bits that are not there", """
                format {a:p3<3;b:p3>3;c:p3=3;}
                bytes 51 80
                reads 2 4 3
                bytes 71 80
                read WRONG 0 0
                bytes 4d 80
                read WRONG 0 1
                bytes 52 00
                read WRONG 0 2
                bytes 51 00
                read WRONG 0 2
                bytes 51
                read END 0 2
                bytes
                read END 0 0
                format {a:p7;b:p1;c:p1;}
                bytes 03
                read END 1 2
                bytes 03 80
                reads 1 1 1
                format {a:p7;b:p3>3;}
                bytes 01
                read END 0 1
                format {a:p3<3;b:p7;}
                bytes ff
                read WRONG 0 0
                """);
    }

    private static void restsOfBytes() {
        Script.run("the rest of a byte must be 0", """
                format {a:p3;}
                bytes a0
                reads 5
                bytes a1
                read WRONG 0 0
                bytes b0
                read WRONG 0 0
                bytes a8 01
                read WRONG 0 0
                bytes a0 01
                read LEFT 1 -1
                format {a:p7;b:p1;}
                bytes ff
                reads 127 1
                format {a:p7;b:p2;}
                bytes ff 80
                reads 127 3
                bytes ff 81
                read WRONG 0 1
                bytes ff c0
                read WRONG 0 1
                format {a:p7;b:p1;c:p1;}
                bytes ff 81
                read WRONG 1 2
                """);
        Script.run("it is looked at where the next unit would begin, before that", """
                format {a:p3;b:u1;}
                bytes a1
                read WRONG 0 0
                bytes a0
                read END 1 1
                format {a:p3;b:{};c:p1<1;}
                bytes a1
                read WRONG 0 0
                bytes a0
                read END 1 2
                bytes a0 80
                read WRONG 1 2
                bytes a0 01
                read WRONG 1 2
                format {a:p3;b:{c:u1;};}
                bytes a4
                read WRONG 0 0
                format {a:s1;b:p3;c:*au1;d:u1;}
                bytes ff a1 00
                read WRONG 1 1
                bytes 00 a1 00
                read WRONG 1 1
                bytes 00 a0 07
                reads 0 5 7
                """);
        Script.run("or where the structure ends", """
                format {a:{b:p3;};c:u1;}
                bytes a1
                read WRONG 0 1
                bytes a0
                read END 1 2
                format {a:u1;b:*a{c:p3;d:p3;};}
                bytes 02 a0 a4
                reads 2 5 0 5 1
                bytes 02 a1 a4
                read WRONG 1 3
                bytes 02 a0 a6
                read WRONG 2 3
                format {a:{b:{c:p1;};};}
                bytes 01
                read WRONG 0 2
                format {a:u1;b:/a{c:p1;};}
                bytes 01 81
                read WRONG 1 2
                bytes 01 80
                reads 1 1
                """);
    }

    private static void floats() {
        Script.run("floats and doubles, as an int's and a long's value", """
                format {a:f;b:d;}
                bytes 3f c0 00 00 3f f8 00 00 00 00 00 01
                reads 1069547520 4609434218613702657
                real(1) = 1.5000000000000002
                bytes c0 20 00 01 bf f0 00 00 00 00 00 00
                reads -1071644671 -4616189618054758400
                real(1) = -1.0
                bytes 80 00 00 00 80 00 00 00 00 00 00 00
                reads -2147483648 -9223372036854775808
                bytes 7f ff ff ff 7f ff ff ff ff ff ff ff
                reads 2147483647 9223372036854775807
                bytes ff ff ff ff ff ff ff ff ff ff ff ff
                reads -1 -1
                format f
                bytes 01 02 03
                read END 0 -1
                bytes 01 02 03 04
                reads 16909060
                format d
                bytes 01 02 03 04 05 06 07
                read END 0 -1
                bytes 01 02 03 04 05 06 07 08
                reads 72623859790382856
                """);
    }

    private static void words() {
        Script.run("words, up to the next byte 0", """
                format {a:z;b:z;}
                bytes 68 69 00 ff 00
                reads 2 104 105 1 255
                bytes 00 00
                reads 0 0
                bytes 00 01 00 05
                read LEFT 3 -1
                bytes 68 69
                read END 0 0
                bytes 68 69 00
                read END 3 1
                bytes 00 01
                read END 1 1
                bytes
                read END 0 0
                """);
        Script.run("at most 20 bytes", """
                format z
                bytes 61*19
                read END 0 -1
                bytes 61*20
                read END 0 -1
                bytes 61*21
                read WRONG 0 -1
                bytes 61*100
                read WRONG 0 -1
                bytes 61*19 00
                reads 19 97*19
                bytes 61*20 00
                reads 20 97*20
                bytes 61*21 00
                read WRONG 0 -1
                bytes 61*20 00 07
                read LEFT 21 -1
                format {a:u2;b:z;}
                bytes 00 01 61*20
                read END 2 1
                bytes 00 01 61*21
                read WRONG 2 1
                bytes 00 00 61*20 00
                reads 0 20 97*20
                """);
    }

    private static void rest() {
        Script.run("how many bytes are left, then each", """
                format r
                reads 0
                bytes 00 ff 80 7f
                reads 4 0 255 128 127
                bytes 05*120
                reads 120 5*120
                format {a:u2;b:r;}
                bytes 01 00
                reads 256 0
                bytes 01 00 09
                reads 256 1 9
                bytes 01
                read END 0 0
                format {a:p3;k:r;}
                bytes e0 00 00
                reads 7 2 0 0
                bytes e1 00
                read WRONG 0 0
                """);
    }

    private static void counted() {
        Script.run("as often as the value says", """
                format {a:u1;b:*au2;c:u1;}
                bytes 00 07
                reads 0 7
                bytes 01 00 05 07
                reads 1 5 7
                bytes 03 00 05 01 00 ff ff 07
                reads 3 5 256 65535 7
                bytes 03 00 05 01 00 ff
                read END 5 1
                bytes 02 00 05 01 00
                read END 5 2
                format {a:u1<4;b:u1<9;c:*a*bu1;d:*b*az;}
                bytes 02 01 08 09 41 00 00
                reads 2 1 8 9 1 65 0
                bytes 00 03
                reads 0 3
                bytes 03 00
                reads 3 0
                format {a:p2;b:p6;c:*au1;d:*bu1;}
                bytes 42 05 06 07
                reads 1 2 5 6 7
                """);
        Script.run("a value below 0", """
                format {a:s1;b:u1;c:*au1;}
                bytes ff 05
                read WRONG 1 1
                bytes 80 05
                read WRONG 1 1
                bytes 00 05
                reads 0 5
                bytes 01 05 06
                reads 1 5 6
                format {a:s1<0;c:{d:*au1;};}
                bytes ff
                read WRONG 0 0
                """);
        Script.run("types that may have no bytes", """
                format {a:u1;b:u1;c:*a?b{0:{};1:u1;};}
                bytes ff 00
                reads 255 0
                bytes 02 01 05 06
                reads 2 1 5 6
                bytes 02 00 05
                read LEFT 2 -1
                """);
    }

    private static void sized() {
        Script.run("as long as fewer bytes were read", """
                format {a:u1;b:/au2;c:u1;}
                bytes 00 07
                reads 0 7
                bytes 02 00 05 07
                reads 2 5 7
                bytes 04 00 05 00 06 07
                reads 4 5 6 7
                bytes 01 00 05 07
                read WRONG 1 1
                bytes 03 00 05 00 06 07
                read WRONG 3 1
                bytes 03 00 05 00
                read END 3 1
                bytes 04 00 05
                read END 3 1
                format {a:u1;b:/az;c:u1;}
                bytes 05 41 00 42 43 00 44
                reads 5 1 65 2 66 67 68
                bytes 01 00 05
                reads 1 0 5
                bytes 02 00 00 05
                reads 2 0 0 5
                bytes 02 41 42 00 05
                read WRONG 1 1
                """);
        Script.run("a value below 0", """
                format {a:s1;b:u1;c:/au1;}
                bytes ff 05
                read WRONG 1 1
                bytes 00 05
                reads 0 5
                bytes 02 05 06 07
                reads 2 5 6 7
                """);
        Script.run("within one another and with bits", """
                format {a:u1;b:u1>0;c:/a/bu1;d:u1;}
                bytes 04 02 01 02 03 04 05
                reads 4 2 1 2 3 4 5
                bytes 03 02 01 02 03 04 05
                read WRONG 5 2
                format {a:u1;b:p3;c:/a{d:p7;e:p7;};f:p1;}
                bytes 04 a0 01 fc 03 04 80
                reads 4 5 0 127 1 65 1
                bytes 02 a0 01 fc 80
                reads 2 5 0 127 1
                bytes 03 a0 01 fc 03 04 80
                read WRONG 4 4
                format {a:p4;b:p4;c:/b{d:u1;e:*du1;};f:/au1;}
                bytes 13 01 05 00 09
                reads 1 3 1 5 0 9
                bytes 13 03 05 06 07 09
                read WRONG 4 4
                """);
    }

    private static void choices() {
        Script.run("the case whose figure is the value", """
                format {a:u1;b:?a{2:u1;0:v2;255:{c:u1;d:z;};7:{};};e:u1;}
                bytes 02 05 09
                reads 2 5 9
                bytes 00 05 01 09
                reads 0 261 9
                bytes ff 05 41 00 09
                reads 255 5 1 65 9
                bytes 07 09
                reads 7 9
                bytes 01 05 09
                read WRONG 0 0
                bytes 03
                read WRONG 0 0
                bytes 02
                read END 1 1
                bytes ff 05 41
                read END 2 3
                format {a:s1;b:u1;c:?a{1:u1;};}
                bytes ff 01 01
                read WRONG 1 1
                bytes 01 02 03
                reads 1 2 3
                format {a:p4;b:p4;c:?b{001:?a{1:z;2:u1;};03:*au1;};}
                bytes 11 00
                reads 1 1 0
                bytes 21 07
                reads 2 1 7
                bytes 23 07 08
                reads 2 3 7 8
                bytes 31 07
                read WRONG 0 1
                """);
    }

    private static void latestValues() {
        Script.run("the value that was read for it last", """
                format {a:u1<4;b:*a{c:u1;d:*cu1;};e:u1;}
                bytes 03 01 09 00 02 07 08 05
                reads 3 1 9 0 2 7 8 5
                format {a:u1;b:{a:u1;c:*au1;};d:*au1;}
                bytes 02 01 09 07 08
                reads 2 1 9 7 8
                format {a:u1;a:u1;b:*au1;}
                bytes 02 01 09
                reads 2 1 9
                format {c:u1;d:?c{1:{c:u1;d:*cu1;};2:*cu1;};}
                bytes 01 03 09 08 07
                reads 1 3 9 8 7
                bytes 01 00
                reads 1 0
                bytes 02 07 08
                reads 2 7 8
                format {c:u1<4;b:*c{d:*cu1;c:u1<5;e:*cu1;};}
                bytes 02 09 08 01 07 09 08 00
                reads 2 9 8 1 7 9 8 0
                bytes 00
                reads 0
                bytes 02 01 01 00 01 01 00
                reads 2 1 1 0 1 1 0
                """);
    }

    private static void tooManyValues() {
        Script.run("at most 160 values", """
                format {a:u1;b:*a{c:p1;d:p1;e:p1;f:p1;g:p1;h:p1;i:p1;j:p1;};k:r;}
                bytes 13 ff*19 07*6
                reads 19 1*152 6 7*6
                bytes 13 ff*19 07*7
                read WRONG 20 10
                bytes 14 ff*20
                read WRONG 20 9
                bytes 14 ff*19
                read END 20 2
                bytes 15 ff*21
                read WRONG 20 9

                format {a:u1;b:*a{c:p1;d:p1;e:p1;f:p1;g:p1;h:p1;i:p1;j:p1;};k:z;l:z;}
                bytes 13 ff*19 07*5 00 00
                reads 19 1*152 5 7*5 0
                bytes 13 ff*19 07*6 00 00
                read WRONG 27 11
                bytes 13 ff*19 07*7 00 00
                read WRONG 20 10

                format {a:u1;b:*a{c:p1;d:p1;e:p1;f:p1;g:p1;h:p1;i:p1;j:p1;};k:*au1;}
                bytes 11 ff*17 07*17
                reads 17 1*136 7*17
                bytes 12 ff*18 07*18
                read WRONG 34 10
                """);
    }

    private static void spotAndName() {
        Script.run("the spot of the latest unit and the innermost field", """
                format {c:u1;d:{e:{l:u2;};f:?c{1:u1;};};}
                read END 0 2
                bytes 01 00
                read END 1 11
                bytes 01 00 00
                read END 3 5
                bytes 02 00 00
                read WRONG 1 11
                bytes 01 00 00 05 06 07
                read LEFT 4 -1
                format {}
                bytes
                reads
                bytes 05 06
                read LEFT 0 -1
                format u2
                bytes 05 06 07
                read LEFT 2 -1
                format {l:p3;k:p7;j:p7;i:u1;}
                bytes ff
                read END 0 10
                bytes ff ff
                read END 1 9
                bytes ff ff 80
                read END 3 8
                """);
        Script.run("what goes well leaves them", """
                format {a:u1;b:u1;}
                bytes 01
                read END 1 1
                put(2, 1) = 2
                reads 1 2
                count(3) = 1
                count(4) = 1
                """);
    }

    private static void whatComesOfIt() {
        Script.run("nothing is compiled", """
                read() = throws.UnsupportedOperationException
                bytes 01
                values 2
                text u1
                read() = throws.UnsupportedOperationException
                holds 2
                message 01
                count(3) = -1
                count(4) = -1
                """);
        Script.run("the values are only those that were read, and the message stays", """
                format {a:u1;b:*au1;}
                values 5*160
                bytes 02 07 08
                reads 2 7 8
                message 02 07 08
                reads 2 7 8
                bytes 02 07
                read END 2 1
                holds 2 7 8
                bytes 00
                reads 0
                bytes 01 02 03
                read LEFT 2 -1
                holds 0
                format u1<9
                bytes 09
                read WRONG 0 -1
                holds 0
                bytes 08 01
                read LEFT 1 -1
                holds 0
                """);
    }
}
