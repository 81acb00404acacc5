/** write, and with it what WRITING does. */
public final class Promise10Test {
    public static void main(String[] args) {
        numbers();
        bits();
        floats();
        words();
        rest();
        arrays();
        choices();
        tooManyBytes();
        whatComesOfIt();
        Script.finish("Promise10Test");
    }

    private static void numbers() {
        Script.run("numbers, the highest byte first, or the lowest", """
                format {a:u1;b:u2;c:u3;d:u4;e:v1;f:v2;g:v3;h:v4;}
                values 128 33026 8586245 2248607753 138 36107 9375245 2467434768
                writes 80 81 02 83 04 05 86 07 08 09 8a 0b 8d 0d 0e 8f 10 11 12 93
                format {a:s1;b:s2;c:s3;d:s4;}
                values -1 -2 -259 -66052
                writes ff ff fe ff fe fd ff fe fd fc
                values 127 32767 8388607 2147483647
                writes 7f 7f ff 7f ff ff 7f ff ff ff
                values -128 -32768 -8388608 -2147483648
                writes 80 80 00 80 00 00 80 00 00 00
                format {a:u4;b:v4;}
                values 4294967295 4294967295
                writes ff ff ff ff ff ff ff ff
                """);
        outside("u1", -1, 0, 255, 256);
        outside("v1", -1, 0, 255, 256);
        outside("s1", -129, -128, 127, 128);
        outside("u2", -1, 0, 65535, 65536);
        outside("v2", -1, 0, 65535, 65536);
        outside("s2", -32769, -32768, 32767, 32768);
        outside("u3", -1, 0, 16777215, 16777216);
        outside("s3", -8388609, -8388608, 8388607, 8388608);
        outside("u4", -1, 0, 4294967295L, 4294967296L);
        outside("v4", -1, 0, 4294967295L, 4294967296L);
        outside("s4", -2147483649L, -2147483648, 2147483647, 2147483648L);
        outside("f", -2147483649L, -2147483648, 2147483647, 2147483648L);
        outside("u1<5", -1, 0, 4, 5);
        outside("u1>5", 5, 6, 255, 256);
        outside("v2=5", 4, 5, 5, 6);
        outside("s1<5", -129, -128, 4, 5);
        outside("s1>5", 5, 6, 127, 128);
        outside("u1", Long.MIN_VALUE, 1, 2, Long.MAX_VALUE);
    }

    /** The two outer ones are outside its interval, the two inner ones its ends. */
    private static void outside(String text, long below, long low, long high, long above) {
        Script.run("interval of " + text, "format " + text + "\nvalues " + below + "\nwrite WRONG 0 -1\nvalues " + above
                + "\nwrite WRONG 0 -1\nvalues " + low + "\nwrite() = " + width(text) + "\nreads " + low
                + "\nvalues " + high + "\nwrite() = " + width(text) + "\nreads " + high);
    }

    private static int width(String text) {
        return text.equals("f") ? 4 : text.charAt(1) - '0';
    }

    private static void bits() {
        Script.run("bits, and a rest of 0", """
                format {a:p1;b:p2;c:p5;}
                values 1 1 3
                writes a3
                format {a:p3;}
                values 7
                writes e0
                format {a:p7;b:p7;c:p3;d:u1;}
                values 127 1 5 255
                writes fe 06 80 ff
                values 0 127 7 1
                writes 01 ff 80 01
                format {a:p4;b:u1;c:p4;}
                values 5 255 10
                writes 50 ff a0
                format {a:p4;b:{};c:p4;}
                values 5 10
                writes 50 a0
                format {a:p4;b:{c:p4;};d:p4;}
                values 5 10 3
                writes 50 a0 30
                format {a:p1;b:u1;}
                values 1
                write END 1 1
                values 1 256
                write WRONG 1 1
                format {a:u1;b:p1;c:/au1;d:p7;e:p2;f:p7;}
                values 1 1 9 1 1
                write END 4 5
                format {a:p2;b:*a{c:p2;};}
                values 3 3 2 1
                writes c0 c0 80 40
                """);
        Script.run("bits outside their interval", """
                format {a:p3;b:p7<9;}
                values 8 1
                write WRONG 0 0
                values -1 1
                write WRONG 0 0
                values 7 9
                write WRONG 0 1
                values 7 -1
                write WRONG 0 1
                values 7 8
                writes e2 00
                values 7
                write END 0 1
                values
                write END 0 0
                format {a:p7;b:p1;c:p1;}
                values 1 1 2
                write WRONG 1 2
                values 1 1
                write END 1 2
                """);
    }

    private static void floats() {
        Script.run("floats and doubles", """
                format {a:f;b:d;}
                values 1069547520 4609434218613702657
                writes 3f c0 00 00 3f f8 00 00 00 00 00 01
                values -1 -1
                writes ff*12
                values -2147483648 -0x8000000000000000
                writes 80 00 00 00 80 00*7
                values 2147483647 0x7fffffffffffffff
                writes 7f ff ff ff 7f ff*7
                values 2147483648 0
                write WRONG 0 0
                values 0
                write END 4 1
                """);
    }

    private static void words() {
        Script.run("words", """
                format {a:z;b:z;}
                values 2 104 105 1 255
                writes 68 69 00 ff 00
                values 0 0
                writes 00 00
                values 20 1*20 0
                writes 01*20 00 00
                values 21 1*21 0
                write WRONG 0 0
                values -1 0
                write WRONG 0 0

                format {a:z;b:z;}
                values 1 0 0
                write WRONG 0 0
                values 1 256 0
                write WRONG 0 0
                values 1 -1 0
                write WRONG 0 0
                values 2 1 0 0
                write WRONG 0 0
                values 0 1 0
                write WRONG 1 1
                values 0
                write END 1 1
                values 2 1
                write END 0 0
                values 1 1 3 1 1
                write END 2 1
                values 0 0 0
                write LEFT 2 1
                """);
    }

    private static void rest() {
        Script.run("rest", """
                format r
                values 0
                writes
                values 4 0 255 128 127
                writes 00 ff 80 7f
                values 120 9*120
                writes 09*120

                format r
                values 121 9*121
                write WRONG 0 -1
                values -1
                write WRONG 0 -1
                values 1 256
                write WRONG 0 -1
                values 1 -1
                write WRONG 0 -1
                values 3 1 2
                write END 0 -1
                values
                write END 0 -1
                values 1 2 3
                write LEFT 0 -1
                format {a:p3;k:r;}
                values 7 2 0 5
                writes e0 00 05
                values 7 2 0
                write END 1 10
                """);
    }

    private static void arrays() {
        Script.run("as often as the value says", """
                format {a:u1;b:*au2;c:u1;}
                values 0 7
                writes 00 07
                values 3 5 256 65535 7
                writes 03 00 05 01 00 ff ff 07
                values 3 5 256
                write END 5 1
                values 1 5
                write END 3 2
                values 2 5 65536 7
                write WRONG 3 1
                format {a:s1;b:u1;c:*au1;}
                values -1 5
                write WRONG 1 1
                values 1 5 6
                writes 01 05 06
                """);
        Script.run("as long as fewer bytes were written", """
                format {a:u1;b:/au2;c:u1;}
                values 0 7
                writes 00 07
                values 4 5 6 7
                writes 04 00 05 00 06 07
                values 3 5 6 7
                write WRONG 3 1
                values 4 5
                write END 3 1
                format {a:s1;b:u1;c:/au1;}
                values -1 5
                write WRONG 1 1
                values 2 5 6 7
                writes 02 05 06 07
                format {a:u1;b:p3;c:/a{d:p7;e:p7;};f:p1;}
                values 4 5 0 127 1 65 1
                writes 04 a0 01 fc 03 04 80
                values 3 5 0 127 1 65 1
                write WRONG 4 4
                """);
        Script.run("the value that was written for it last", """
                format {a:u1<3;b:*a{c:u1;d:*cu1;};e:{a:u1;f:*au1;};g:/au1;}
                values 2 1 9 0 1 8 5 6
                writes 02 01 09 00 01 08 05 06
                """);
    }

    private static void choices() {
        Script.run("the case whose figure is the value", """
                format {a:u1;b:?a{2:u1;0:v2;7:{};};e:u1;}
                values 2 5 9
                writes 02 05 09
                values 0 261 9
                writes 00 05 01 09
                values 7 9
                writes 07 09
                values 1 5 9
                write WRONG 0 0
                values 2
                write END 1 1
                values 2 256
                write WRONG 1 1
                """);
    }

    private static void tooManyBytes() {
        Script.run("at most 120 bytes", """
                format {a:u1<99;b:*ad;c:r;}
                values 14 0*14 7 1*7
                writes 0e 00*112 01*7
                values 14 0*14 8 1*8
                write WRONG 113 2
                values 15 0*15 0
                write WRONG 113 1

                format {a:u1<99;b:*ad;c:r;}
                values 14 0*14 120 1*120
                write WRONG 113 2

                format {a:u1<99;b:*ad;c:z;d:u1;}
                values 14 0*14 5 1*5 7
                writes 0e 00*112 01*5 00 07

                format {a:u1<99;b:*ad;c:z;d:u1;}
                values 14 0*14 6 1*6 7
                write WRONG 120 3
                values 14 0*14 7 1*7 7
                write WRONG 113 2
                values 14 0*14 6 1*6
                write END 120 3

                format {a:u1<99;b:*ad;c:u4;d:u2;e:p7;f:p1;g:p1;}
                values 14 0*14 0 0 1 1
                write END 120 6
                values 14 0*14 0 0 1 1 1
                write WRONG 120 6
                format {a:u1<99;b:*ad;c:u4;d:u2;e:p6;f:p3;}
                values 14 0*14 0 0 1 0
                write WRONG 119 5
                format {a:u1<99;b:*ad;c:u4;d:u2;e:u1;f:v2;}
                values 14 0*14 0 0 1 0
                write WRONG 120 5
                format {a:u1<99;b:*ad;c:u4;d:u2;e:v2;}
                values 14 0*14 0 0 0
                write WRONG 119 4
                """);
    }

    private static void whatComesOfIt() {
        Script.run("nothing is compiled", """
                values 2
                bytes 01
                text u1
                write() = throws.UnsupportedOperationException
                holds 2
                message 01
                count(3) = -1
                count(4) = -1
                """);
        Script.run("the message is what was written, and the values stay", """
                format {a:u1;b:*au1;}
                bytes 09*120
                values 2 7 8
                writes 02 07 08
                holds 2 7 8
                writes 02 07 08
                values 2 7
                write END 2 1
                values 2 7 8 9
                write LEFT 2 1
                values 256
                write WRONG 0 0
                message 02 07 08
                values 0
                writes 00
                count(3) = 0
                count(4) = 0
                count(1) = 1
                """);
        Script.run("values are left", """
                values 1
                format {}
                write LEFT -1 -1
                drop(0, 1) = 0
                bytes 01
                writes
                count(3) = -1
                """);
    }
}
