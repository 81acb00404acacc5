/** compile, and with it what makes a text SOUND. */
public final class Promise05Test {
    public static void main(String[] args) {
        whatCompiles();
        namesThatMeanAField();
        sizesThatAreTooGreat();
        figuresOfCases();
        placesOfBitsAndRest();
        whatComesOfIt();
        Script.finish("Promise05Test");
    }

    private static void whatCompiles() {
        Texts.compile(1, "u1", "v1", "s1", "u1<1", "u1>254", "u1=255", "u1=0", "s1<0", "s1>126", "s1=127");
        Texts.compile(2, "u2=999", "s2<0", "s2>999");
        Texts.areUnsound("u1<0", "u1>255", "u1=256", "v1<0", "v1>255", "v1=256", "u1>999", "s1>127", "s1=128", "s1>999");
        Texts.areUnsound("{a:p1>1;}", "{a:p1=2;}", "{a:p7<0;}", "{a:p7>127;}", "{a:p7=128;}", "{a:u1<0;}");
        Texts.areUnsound("{a:u1;b:*a{c:u1;d:s1>127;};}", "{a:u1;b:?a{0:u1;1:u1<0;};}");
        Texts.compile(1, "{a:p1>0;}", "{a:p1=1;}", "{a:p7<1;}", "{a:p7>126;}", "{a:p7=127;}", "{a:p3<999;}");
        Texts.compile(0, "{}", "{a:{};}", "{a:{};b:{c:{};};}");
        Texts.compile(4, "f", "u4", "v4<1", "s4>999");
        Texts.compile(8, "d");
        Texts.compile(21, "z");
        Texts.compile(120, "r");
        Texts.areNoTypes("", "u", "{", "u11", "{a:u1;b:*c", "m", "*");
    }

    private static void namesThatMeanAField() {
        Texts.areUnsound("*au1", "/au1", "?a{0:u1;}", "{a:*au1;}", "{b:u1;a:*au1;}", "{a:*bu1;b:u1;}");
        // What is meant must be a NUMBER or BITS.
        Texts.areUnsound("{a:f;b:*au1;}", "{a:d;b:*au1;}", "{a:z;b:/au1;}", "{a:{};b:*au1;}", "{a:{a:u1;};b:*au1;}");
        Texts.areUnsound("{a:u1;b:*au1;c:*bu1;}", "{a:u1;b:/au1;c:*bu1;}", "{a:u1;b:?a{0:u1;};c:*bu1;}");
        Texts.compile(256, "{a:u1;b:*au1;}", "{a:v1;b:*au1;}", "{a:u1;a:*au1;}", "{a:u1;b:/au1;}");
        Texts.compile(128, "{a:s1;b:*au1;}", "{a:p7;b:*au1;}", "{a:p7;b:/au1;}");
        // Others of that name are passed over.
        Texts.compile(260, "{a:u1;a:f;b:*au1;}", "{a:u1;b:{a:f;c:*au1;};}");
        // The latest is meant.
        Texts.compile(5, "{a:u1;a:u1<4;b:*au1;}", "{a:u1;b:{a:u1<4;c:*au1;};}", "{a:u1<9;a:u1;a:u1=2;b:*au1;}");
        // A STRUCTURE that has ended is forgotten, an outer one is not.
        Texts.areUnsound("{a:{b:u1;};c:*bu1;}", "{a:u1;b:*a{c:u1;};d:*cu1;}", "{a:u1;b:?a{0:{c:u1;};1:*cu1;};}");
        Texts.compile(257, "{a:u1;b:{a:u1<3;};c:*au1;}", "{c:u1;a:u1=0;b:*cu1;}", "{c:u1;a:u1=1;b:{d:*cu1;};}");
        Texts.compile(6, "{b:u1<3;a:{c:{d:*bu2;};};g:u1;}", "{b:u1=2;a:?b{2:*bu2;};g:u1;}", "{b:u1=2;a:*b/b*bu1;g:u1;}");
        // The TYPE around a name is not before it.
        Texts.areUnsound("{a:{b:*au1;};}", "{b:u1;a:?a{0:u1;};}");
        Texts.compile(1, "{a:u1=0;b:?a{0:{};};}");
        // A CASE's TYPE is no FIELD, and a FIELD of a CASE is not around the next.
        Texts.areUnsound("{a:u1;b:?a{0:u1;1:*bu1;};}", "{a:u1;b:?a{0:{c:u1;};1:/cu1;};}");
        Texts.compile(6, "{a:u1<5;b:u1=1;c:?a{0:u1;1:*bf;2:*bu4;};}");
    }

    private static void sizesThatAreTooGreat() {
        Texts.compile(1000, "{a:u2=998;b:*au1;}", "{a:u2=998;b:/au1;}", "{a:u2=998;b:{c:*a{d:p1;};};}");
        Texts.areUnsound("{a:u2=999;b:*au1;}", "{a:u2=999;b:/au1;}", "{a:u1;b:*au4;}", "{a:u4;b:*au1;}", "{a:u2;b:/au1;}");
        // One that is small in a TYPE that is too great is as bad, and so is one that is too great in a CASE.
        Texts.areUnsound("{a:u2;b:?a{0:{c:*au1;};};}", "{a:u1;b:*a*a*au1;}", "{a:u1<33;b:*a*au1;}");
        Texts.areUnsound("{a:v4;b:*au1;}", "{a:s4;b:*af;}", "{a:u4;b:*a*a*au1;}");
        Texts.compile(986, "{a:u1<32;b:*a*au1;c:u4;d:u4;e:u4;f:u4;g:u4;h:u4;}");
        Texts.areUnsound("{a:u2=499;b:*au2;c:p1;}", "{a:u2=998;b:*au1;c:{d:u1;};}", "{a:u2=500;b:{c:*au1;d:*au1;};}");
        // The TYPE of a COUNTED has a MOST above 0, that of a SIZED a LEAST above 0.
        Texts.areUnsound("{a:u1;b:*a{};}", "{a:u1;b:*a{c:{};};}", "{a:u1=0;b:*a{};}", "{a:u1=0;b:*au1;c:*a*au1;}");
        Texts.areUnsound("{a:u1;b:/a{};}", "{a:u1;b:/a*au1;}", "{a:u1<3;b:*a/a*au1;}", "{a:u1;b:/a?a{0:{};1:u1;};}");
        Texts.areUnsound("{a:u1;b:/a/au1;}", "{a:u1;b:/ar;}", "{a:u1;b:*ar;}");
        Texts.compile(5 + 1, "{a:u1<6;b:*a?a{0:{};1:u1;};}", "{a:u1<6;b:/a?a{0:u2;1:u1;};}", "{a:u1<6;b:/a{c:p1;};}");
        Texts.compile(9, "{a:u1=2;b:*a*au2;}", "{a:u1=8;b:/a/au1;}", "{a:u1=8;b:/a*af;}");
        Texts.compile(1, "{a:s1<0;b:/au1;}", "{a:s1<1;b:*au1;}");
    }

    private static void figuresOfCases() {
        Texts.compile(3, "{a:u1<5;b:?a{0:u1;4:u2;};}", "{a:u1>5;b:?a{6:u1;255:u2;};}", "{a:p2;b:?a{000:u1;3:u2;};}");
        Texts.compile(9, "{a:u1=7;b:?a{7:d;};}", "{a:s1;b:?a{0:u1;127:d;};}", "{a:v1;b:?a{01:d;10:u1;100:u1;};}");
        Texts.areUnsound("{a:u1<5;b:?a{5:u1;};}", "{a:u1>5;b:?a{5:u1;};}", "{a:u1;b:?a{256:u1;};}", "{a:u1=7;b:?a{6:u1;};}");
        Texts.areUnsound("{a:s1;b:?a{128:u1;};}", "{a:p2;b:?a{4:u1;};}", "{a:u1=7;b:?a{7:u1;8:u1;};}", "{a:u1<5;b:?a{1:u1;2:d;6:f;};}");
        Texts.areUnsound("{a:u1;b:?a{1:u1;1:u1;};}", "{a:u1;b:?a{1:u1;01:u2;};}", "{a:u1;b:?a{0:u1;1:f;000:d;};}");
        Texts.areUnsound("{a:u1;b:?a{3:u1;2:f;1:d;02:z;};}");
    }

    private static void placesOfBitsAndRest() {
        Texts.areUnsound("p3", "p1<1", "{a:u1;b:*ap3;}", "{a:u1;b:/ap3;}", "{a:u1;b:?a{0:p3;};}", "{a:u1;b:?a{0:u1;1:p1;};}");
        Texts.compile(1, "{a:p3;}", "{a:p7;b:p1;}", "{a:{b:p3;};}");
        Texts.compile(120, "{a:r;}", "{a:{};b:r;}");
        Texts.compile(121, "{a:u1;b:r;}", "{a:p3;b:r;}");
        Texts.areUnsound("{a:r;b:u1;}", "{a:r;b:{};}", "{a:r;b:r;}", "{a:{b:r;};}", "{a:u1;b:{c:r;};}", "{a:r;b:p1;}");
        Texts.areUnsound("{a:u1;b:?a{0:r;};}", "{a:u1<2;b:*ar;}", "{a:u1>0;b:/ar;}", "{a:u1;b:{c:u1;d:r;};e:r;}");
        Texts.areUnsound("*ar", "?a{0:r;}");
    }

    private static void whatComesOfIt() {
        Script.run("after what does not compile nothing is compiled", """
                format u1
                count(5) = 1
                text u
                compile() = throws.UnsupportedOperationException
                count(5) = 0
                size(true) = throws.NoSuchElementException
                read() = throws.UnsupportedOperationException
                write() = throws.UnsupportedOperationException
                format u2
                count(5) = 1
                size(false) = 2
                text u1<0
                compile() = throws.IllegalStateException
                count(5) = 0
                size(false) = throws.NoSuchElementException
                read() = throws.UnsupportedOperationException
                write() = throws.UnsupportedOperationException
                count(0) = 4
                """);
        Script.run("a text may be compiled again", """
                format {a:u1;b:*au1;}
                compile() = 256
                compile() = 256
                bytes 01 09
                reads 1 9
                format {a:u2;b:{c:p4;d:p4;};}
                bytes 01 02 ab
                reads 258 10 11
                compile() = 3
                reads 258 10 11
                """);
        Script.run("nothing but what is compiled changes", """
                bytes 01 02
                values 5 6 7
                text {a:u1;}
                compile() = 1
                holds 5 6 7
                message 01 02
                count(3) = -1
                count(4) = -1
                read LEFT 1 -1
                text {b:u1
                compile() = throws.UnsupportedOperationException
                holds 5 6 7
                message 01 02
                count(3) = 1
                count(0) = 5
                """);
    }
}
