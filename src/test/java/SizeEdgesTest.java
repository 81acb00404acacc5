/** LEAST and MOST. */
public final class SizeEdgesTest {
    public static void main(String[] args) {
        ofOne();
        sumOfTheFields();
        bitsThatFollowOneAnother();
        bitsWithAnotherTypeBetween();
        counted();
        sized();
        choices();
        Script.finish("SizeEdgesTest");
    }

    private static void ofOne() {
        for (int n = 1; n <= 4; n++) {
            Texts.haveSizes(n, n, "u" + n, "v" + n, "s" + n, "u" + n + "<1", "s" + n + ">0", "v" + n + "=1");
        }
        Texts.haveSizes(4, 4, "f");
        Texts.haveSizes(8, 8, "d");
        Texts.haveSizes(1, 21, "z");
        Texts.haveSizes(0, 120, "r");
        Texts.haveSizes(0, 0, "{}");
        Script.run("nothing is compiled: no size", """
                size(false) = throws.NoSuchElementException
                size(true) = throws.NoSuchElementException
                format {}
                size(false) = 0
                size(true) = 0
                """);
    }

    private static void sumOfTheFields() {
        Texts.haveSizes(0, 0, "{a:{};}", "{a:{};b:{};}");
        Texts.haveSizes(1, 1, "{a:u1;}", "{a:{b:{c:{d:u1;};};};}");
        for (int many = 0; many <= 17; many++) {
            Texts.haveSizes(2 * many, 2 * many, "{" + "a:u2;".repeat(many) + "}");
            Texts.haveSizes(many, 21 * many, "{" + "a:z;".repeat(many) + "}");
        }
        Texts.haveSizes(16, 36, "{a:u3;b:d;c:{d:z;};e:f;}");
        Texts.haveSizes(3, 123, "{a:u3;b:r;}");
    }

    private static void bitsThatFollowOneAnother() {
        for (int n = 1; n <= 80; n++) {
            int bytes = (n + 7) / 8;
            String sevens = "a:p7;".repeat(n / 7) + (n % 7 == 0 ? "" : "b:p" + n % 7 + ";");
            Texts.haveSizes(bytes, bytes, "{" + sevens + "}");
            if (n <= 17) {
                Texts.haveSizes(bytes, bytes, "{" + "a:p1;".repeat(n) + "}");
            }
            if (n <= 60) {
                Texts.haveSizes(bytes + 3, bytes + 3, "{c:u1;" + sevens + "d:u2;}");
            }
        }
        Texts.haveSizes(1, 1, "{a:p1;}", "{a:p7;}", "{a:p7;b:p1;}", "{a:p4;b:p4;}", "{a:p1;b:p7<9;}");
        Texts.haveSizes(2, 2, "{a:p7;b:p2;}", "{a:p4;b:p5;}", "{a:p7;b:p7;c:p2;}");
        Texts.haveSizes(3, 3, "{a:p7;b:p7;c:p3;}");
    }

    private static void bitsWithAnotherTypeBetween() {
        Texts.haveSizes(3, 3, "{a:p1;b:u1;c:p1;}");
        Texts.haveSizes(6, 6, "{a:p1;b:f;c:p1;}");
        Texts.haveSizes(10, 10, "{a:p1;b:d;c:p1;}");
        Texts.haveSizes(3, 23, "{a:p1;b:z;c:p1;}");
        Texts.haveSizes(2, 2, "{a:p1;b:{};c:p1;}", "{a:p4;b:{};c:p4;}", "{a:p4;b:p4;c:{};d:p4;e:p4;}");
        Texts.haveSizes(3, 3, "{a:p1;b:{c:p1;};d:p1;}");
        Texts.haveSizes(2, 3, "{a:p1;b:*au1;c:p1;}", "{a:p1;b:/au1;c:p1;}", "{a:p1;b:?a{0:{};1:u1;};c:p1;}");
        Texts.haveSizes(2, 2, "{a:p1=0;b:*au1;c:p1;}", "{a:p1=0;b:/au1;c:p1;}", "{a:p1;b:?a{0:{};};c:p1;}");
        Texts.haveSizes(2, 2, "{a:p7;b:{c:p7;};}");
    }

    private static void counted() {
        // The low end, but not below 0, times the type's LEAST; the high end likewise with the MOST.
        Texts.haveSizes(1, 511, "{a:u1;b:*au2;}");
        Texts.haveSizes(3, 511, "{a:u1>0;b:*au2;}");
        Texts.haveSizes(1, 1, "{a:u1<1;b:*au2;}", "{a:u1=0;b:*au2;}");
        Texts.haveSizes(1, 3, "{a:u1<2;b:*au2;}");
        Texts.haveSizes(3, 3, "{a:u1=1;b:*au2;}");
        Texts.haveSizes(4, 64, "{a:u1=3;b:*az;}");
        Texts.haveSizes(4 + 3 * 2, 4 + 3 * 8, "{c:u1<2;d:u3=3;b:*d?c{0:u2;1:d;};}");
        Texts.haveSizes(1, 2, "{a:p1;b:*au1;}");
        Texts.haveSizes(1, 128, "{a:s1;b:*au1;}");
        Texts.haveSizes(1, 1, "{a:s1<0;b:*au1;}", "{a:s1<1;b:*au1;}", "{a:s1=0;b:*au1;}");
        Texts.haveSizes(1, 2, "{a:s1<2;b:*au1;}");
        Texts.haveSizes(2, 128, "{a:s1>0;b:*au1;}");
        Texts.haveSizes(4, 4, "{a:s4<0;b:*au4;}", "{a:u4=0;b:*au4;}");
    }

    private static void sized() {
        // The ends themselves, not below 0, whatever the type.
        Texts.haveSizes(1, 256, "{a:u1;b:/au2;}", "{a:u1;b:/ad;}", "{a:u1;b:/az;}");
        Texts.haveSizes(2, 256, "{a:u1>0;b:/au2;}", "{a:u1>0;b:/az;}");
        Texts.haveSizes(1, 1, "{a:u1<1;b:/au2;}", "{a:u1=0;b:/az;}");
        Texts.haveSizes(1, 2, "{a:u1<2;b:/au2;}", "{a:p1;b:/az;}");
        Texts.haveSizes(4, 4, "{a:u1=3;b:/ad;}");
        Texts.haveSizes(1, 128, "{a:s1;b:/au2;}");
        Texts.haveSizes(1, 1, "{a:s1<0;b:/au2;}", "{a:s1<1;b:/au2;}", "{a:s1=0;b:/au2;}");
        Texts.haveSizes(1, 2, "{a:s1<2;b:/au2;}");
        Texts.haveSizes(2, 128, "{a:s1>0;b:/au2;}");
        Texts.haveSizes(4, 4, "{a:s4<0;b:/au1;}", "{a:u4=0;b:/au1;}");
    }

    private static void choices() {
        Texts.haveSizes(5, 5, "{a:u1;b:?a{0:f;};}");
        Texts.haveSizes(1, 1, "{a:u1;b:?a{0:{};};}");
        for (String cases : new String[] {"0:u2;1:f;2:d;", "0:f;1:u2;2:d;", "0:d;1:f;2:u2;", "0:f;1:d;2:u2;"}) {
            Texts.haveSizes(3, 9, "{a:u1;b:?a{" + cases + "};}");
        }
        Texts.haveSizes(2, 22, "{a:u1;b:?a{0:d;1:z;};}", "{a:u1;b:?a{0:z;1:d;};}");
        Texts.haveSizes(1, 22, "{a:u1;b:?a{0:z;1:{};};}", "{a:u1;b:?a{0:{};1:z;};}");
        Texts.haveSizes(1000, 1000, "{a:u2=998;b:?a{998:/au1;};}");
        // The field may be wider than the cases.
        Texts.haveSizes(5, 5, "{a:u4;b:?a{7:u1;};}", "{a:s4;b:?a{7:u1;};}");
    }
}
