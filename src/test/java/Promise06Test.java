/** size, and with it LEAST and MOST. */
public final class Promise06Test {
    public static void main(String[] args) {
        Script.run("nothing is compiled", """
                size(true) = throws.NoSuchElementException
                size(false) = throws.NoSuchElementException
                text u1
                size(true) = throws.NoSuchElementException
                size(false) = throws.NoSuchElementException
                """);
        Script.run("the text of now does not matter", """
                format {a:u1;b:z;}
                text r
                size(false) = 2
                size(true) = 22
                clear() = 1
                size(false) = 2
                size(true) = 22
                """);
        single();
        structures();
        arrays();
        choices();
        Script.finish("Promise06Test");
    }

    private static void single() {
        sizes("u1", 1, 1);
        sizes("v2", 2, 2);
        sizes("s3<0", 3, 3);
        sizes("u4=7", 4, 4);
        sizes("f", 4, 4);
        sizes("d", 8, 8);
        sizes("z", 1, 21);
        sizes("r", 0, 120);
        sizes("{}", 0, 0);
    }

    private static void structures() {
        sizes("{a:u1;b:v2;c:s3;d:u4;e:f;f:d;g:z;h:r;}", 23, 163);
        sizes("{a:{b:z;c:u1;};d:z;}", 3, 43);
        // BITS that follow one another count together.
        sizes("{a:p1;}", 1, 1);
        sizes("{a:p1;b:p7;}", 1, 1);
        sizes("{a:p2;b:p7;}", 2, 2);
        sizes("{a:p1;b:p1;c:p1;d:p1;e:p1;f:p1;g:p1;h:p1;}", 1, 1);
        sizes("{a:p1;b:p1;c:p1;d:p1;e:p1;f:p1;g:p1;h:p1;i:p1;}", 2, 2);
        sizes("{a:p7;b:p7;c:p3;}", 3, 3);
        sizes("{a:p7;b:p7;c:p2;d:u1;}", 3, 3);
        // Another TYPE parts them, even one of no bytes.
        sizes("{a:p3;b:u1;c:p3;}", 3, 3);
        sizes("{a:p3;b:{};c:p3;}", 2, 2);
        sizes("{a:p3;b:p5;c:{};d:p1;}", 2, 2);
        sizes("{a:p3;b:{c:p3;};d:p2;}", 3, 3);
        sizes("{a:p3;b:*ad;c:p3;d:p3;}", 2, 58);
        sizes("{a:p3;b:r;}", 1, 121);
    }

    private static void arrays() {
        sizes("{a:u1;b:*au2;}", 1, 511);
        sizes("{a:u1>2;b:*au2;}", 7, 511);
        sizes("{a:u1<3;b:*az;}", 1, 43);
        sizes("{a:u1=3;b:*az;}", 4, 64);
        sizes("{a:s1;b:*au2;}", 1, 255);
        sizes("{a:s1>3;b:*au2;}", 9, 255);
        sizes("{a:s1<0;b:*au2;}", 1, 1);
        sizes("{a:s1<2;b:*au2;}", 1, 3);
        sizes("{a:p3;b:*au2;}", 1, 15);
        sizes("{a:u1>1;b:u1=3;c:*a*bu1;}", 8, 767);
        sizes("{a:u1<9;b:*a{c:p3;d:p6;};}", 1, 17);
        // Of a SIZED the bytes, whatever its TYPE.
        sizes("{a:u1;b:/au2;}", 1, 256);
        sizes("{a:u1>2;b:/au2;}", 4, 256);
        sizes("{a:u1=3;b:/az;}", 4, 4);
        sizes("{a:s1;b:/au2;}", 1, 128);
        sizes("{a:s1>3;b:/ad;}", 5, 128);
        sizes("{a:s1<0;b:/au2;}", 1, 1);
        sizes("{a:p3>2;b:/au4;}", 4, 8);
        sizes("{a:u1=2;b:*a/au4;}", 5, 5);
        sizes("{a:u1=2;b:/a*au4;}", 3, 3);
    }

    private static void choices() {
        sizes("{a:u1;b:?a{0:u1;1:u4;2:d;};}", 2, 9);
        sizes("{a:u1;b:?a{0:d;1:u4;2:u1;};}", 2, 9);
        sizes("{a:u1;b:?a{0:{};1:z;};}", 1, 22);
        sizes("{a:u1;b:?a{5:f;};}", 5, 5);
        sizes("{a:u1;b:?a{0:z;1:*au1;2:/au2;3:{c:d;d:d;};};}", 1, 256);
        sizes("{a:u1<3;b:?a{0:?a{1:u1;2:d;};1:u2;};}", 2, 9);
        sizes("{a:u2=998;b:?a{998:/au1;};}", 1000, 1000);
    }

    private static void sizes(String text, int least, int most) {
        Script.run("size of " + text, "format " + text + "\nsize(false) = " + least + "\nsize(true) = " + most
                + "\ncompile() = " + most + "\nsize(false) = " + least);
    }
}
