/** size, and with it LEAST and MOST. */
public final class Promise06Test {
    public static void main(String[] args) {
        Script.run("nothing is compiled", """
                size(true) = throws.NoSuchElementException
                size(false) = throws.NoSuchElementException
                text u1
                size(true) = throws.NoSuchElementException
                size(false) = throws.NoSuchElementException
                """);
        Script.run("the text of now does not matter", """
                format {a:u1;b:z;}
                text r
                size(false) = 2
                size(true) = 22
                clear() = 1
                size(false) = 2
                size(true) = 22
                """);
        single();
        structures();
        arrays();
        choices();
        Script.finish("Promise06Test");
    }

    private static void single() {
        Texts.haveSizes(1, 1, "u1");
        Texts.haveSizes(2, 2, "v2");
        Texts.haveSizes(3, 3, "s3<0");
        Texts.haveSizes(4, 4, "u4=7");
        Texts.haveSizes(4, 4, "f");
        Texts.haveSizes(8, 8, "d");
        Texts.haveSizes(1, 21, "z");
        Texts.haveSizes(0, 120, "r");
        Texts.haveSizes(0, 0, "{}");
    }

    private static void structures() {
        Texts.haveSizes(23, 163, "{a:u1;b:v2;c:s3;d:u4;e:f;f:d;g:z;h:r;}");
        Texts.haveSizes(3, 43, "{a:{b:z;c:u1;};d:z;}");
        // BITS that follow one another count together.
        Texts.haveSizes(1, 1, "{a:p1;}");
        Texts.haveSizes(1, 1, "{a:p1;b:p7;}");
        Texts.haveSizes(2, 2, "{a:p2;b:p7;}");
        Texts.haveSizes(1, 1, "{a:p1;b:p1;c:p1;d:p1;e:p1;f:p1;g:p1;h:p1;}");
        Texts.haveSizes(2, 2, "{a:p1;b:p1;c:p1;d:p1;e:p1;f:p1;g:p1;h:p1;i:p1;}");
        Texts.haveSizes(3, 3, "{a:p7;b:p7;c:p3;}");
        Texts.haveSizes(3, 3, "{a:p7;b:p7;c:p2;d:u1;}");
        // Another TYPE parts them, even one of no bytes.
        Texts.haveSizes(3, 3, "{a:p3;b:u1;c:p3;}");
        Texts.haveSizes(2, 2, "{a:p3;b:{};c:p3;}");
        Texts.haveSizes(2, 2, "{a:p3;b:p5;c:{};d:p1;}");
        Texts.haveSizes(3, 3, "{a:p3;b:{c:p3;};d:p2;}");
        Texts.haveSizes(2, 58, "{a:p3;b:*ad;c:p3;d:p3;}");
        Texts.haveSizes(1, 121, "{a:p3;b:r;}");
    }

    private static void arrays() {
        Texts.haveSizes(1, 511, "{a:u1;b:*au2;}");
        Texts.haveSizes(7, 511, "{a:u1>2;b:*au2;}");
        Texts.haveSizes(1, 43, "{a:u1<3;b:*az;}");
        Texts.haveSizes(4, 64, "{a:u1=3;b:*az;}");
        Texts.haveSizes(1, 255, "{a:s1;b:*au2;}");
        Texts.haveSizes(9, 255, "{a:s1>3;b:*au2;}");
        Texts.haveSizes(1, 1, "{a:s1<0;b:*au2;}");
        Texts.haveSizes(1, 3, "{a:s1<2;b:*au2;}");
        Texts.haveSizes(1, 15, "{a:p3;b:*au2;}");
        Texts.haveSizes(8, 767, "{a:u1>1;b:u1=3;c:*a*bu1;}");
        Texts.haveSizes(1, 17, "{a:u1<9;b:*a{c:p3;d:p6;};}");
        // Of a SIZED the bytes, whatever its TYPE.
        Texts.haveSizes(1, 256, "{a:u1;b:/au2;}");
        Texts.haveSizes(4, 256, "{a:u1>2;b:/au2;}");
        Texts.haveSizes(4, 4, "{a:u1=3;b:/az;}");
        Texts.haveSizes(1, 128, "{a:s1;b:/au2;}");
        Texts.haveSizes(5, 128, "{a:s1>3;b:/ad;}");
        Texts.haveSizes(1, 1, "{a:s1<0;b:/au2;}");
        Texts.haveSizes(4, 8, "{a:p3>2;b:/au4;}");
        Texts.haveSizes(5, 5, "{a:u1=2;b:*a/au4;}");
        Texts.haveSizes(3, 3, "{a:u1=2;b:/a*au4;}");
    }

    private static void choices() {
        Texts.haveSizes(2, 9, "{a:u1;b:?a{0:u1;1:u4;2:d;};}");
        Texts.haveSizes(2, 9, "{a:u1;b:?a{0:d;1:u4;2:u1;};}");
        Texts.haveSizes(1, 22, "{a:u1;b:?a{0:{};1:z;};}");
        Texts.haveSizes(5, 5, "{a:u1;b:?a{5:f;};}");
        Texts.haveSizes(1, 256, "{a:u1;b:?a{0:z;1:*au1;2:/au2;3:{c:d;d:d;};};}");
        Texts.haveSizes(2, 9, "{a:u1<3;b:?a{0:?a{1:u1;2:d;};1:u2;};}");
        Texts.haveSizes(1000, 1000, "{a:u2=998;b:?a{998:/au1;};}");
    }
}
