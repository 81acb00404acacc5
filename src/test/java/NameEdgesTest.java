/**
 * Which FIELD a name means. Each text has an array or choice of so many bytes as the FIELD is limited to, so
 * that its sizes tell which one is meant.
 */
public final class NameEdgesTest {
    public static void main(String[] args) {
        whoseTypeIsANumberOrBits();
        thatStandBeforeIt();
        inAStructureAroundIt();
        notInOneThatHasEnded();
        theLatestWithThatName();
        everyName();
        theOneThatWasReadForItLast();
        Script.finish("NameEdgesTest");
    }

    /** In the text X stands for what has a name, in its three kinds; n bytes by the FIELD that is limited to n. */
    private static void means(int n, int otherBytes, String text) {
        means('a', n, otherBytes, text);
    }

    private static void means(char name, int n, int otherBytes, String text) {
        String[] oneOfThree = {"*" + name + "u1", "/" + name + "u1", "?" + name + "{" + n + ":" + ofBytes(n) + ";}"};
        for (String used : oneOfThree) {
            Texts.haveSizes(n + otherBytes, n + otherBytes, text.replace("X", used));
        }
    }

    private static String ofBytes(int n) {
        return n == 0 ? "{}" : n <= 4 ? "u" + n : "{a:f;b:u" + (n - 4) + ";}";
    }

    private static void meansNone(String text) {
        for (String used : new String[] {"*au1", "/au1", "?a{0:u1;}", "?a{2:u2;}"}) {
            Texts.areUnsound(text.replace("X", used));
        }
    }

    private static void whoseTypeIsANumberOrBits() {
        for (int n = 0; n <= 3; n++) {
            means(n, 1, "{a:u1=" + n + ";b:X;}");
            means(n, 2, "{a:v2=" + n + ";b:X;}");
            means(n, 4, "{a:s4=" + n + ";b:X;}");
            means(n, 1, "{a:p2=" + n + ";b:X;}");
            means(n, 1, "{a:p7=" + n + ";b:X;}");
        }
        means(1, 1, "{a:p1=1;b:X;}");
        for (String other : new String[] {"f", "d", "z", "{}", "{a:{};}", "{a:u1=2;}", "{a:p2=2;}"}) {
            meansNone("{a:" + other + ";b:X;}");
        }
        // Others of that name do not hide the one that is meant.
        means(2, 5, "{a:u1=2;a:f;b:X;}");
        means(2, 9, "{a:u1=2;a:d;b:X;}");
        means(2, 1, "{a:u1=2;a:{};b:X;}");
        means(2, 3, "{a:u1=2;a:*au1;b:X;}");
        means(2, 3, "{a:u1=2;a:/au1;b:X;}");
        means(2, 3, "{a:u1=2;a:?a{2:u2;};b:X;}");
        means(2, 5, "{a:u1=2;b:{a:f;c:X;};}");
        meansNone("{c:u1=2;a:*cu1;b:X;}");
        meansNone("{c:u1=2;a:/cu1;b:X;}");
        meansNone("{c:u1=2;a:?c{2:u1;};b:X;}");
    }

    private static void thatStandBeforeIt() {
        meansNone("X");
        meansNone("{b:X;}");
        meansNone("{b:X;a:u1=2;}");
        meansNone("{b:{c:X;};a:u1=2;}");
        meansNone("{b:{c:X;a:u1=2;};}");
        meansNone("{a:X;}");
        meansNone("{a:X;a:u1=2;}");
        means(2, 2, "{a:u1=2;b:X;a:u1=3;}");
        means(2, 2, "{a:u1=2;b:{c:X;a:u1=3;};}");
        means(2, 2, "{a:u1=2;b:{c:X;};a:u1=3;}");
        // What stands around the name is not before it.
        meansNone("{a:{b:X;};}");
        means(2, 1, "{a:u1=2;a:{a:X;};}");
    }

    private static void inAStructureAroundIt() {
        means(2, 1, "{a:u1=2;b:X;}");
        means(2, 1, "{a:u1=2;b:{c:X;};}");
        means(2, 1, "{a:u1=2;b:{c:{d:X;};};}");
        means(2, 1, "{a:u1=2;b:{c:{d:{e:{};};};e:{f:X;};};}");
        means(2, 2, "{a:u1=2;c:u1=1;b:*cX;}");
        means(2, 2, "{a:u1=2;c:u1=1;b:*c{d:X;};}");
        means(2, 2, "{a:u1=2;c:u1=2;b:/cX;}");
        means(2, 2, "{a:u1=2;c:u1=2;b:/c{d:X;};}");
        means(2, 2, "{a:u1=2;c:u1=9;b:?c{9:X;};}");
        means(2, 2, "{a:u1=2;c:u1=9;b:?c{9:{d:X;};};}");
        means(1, 2, "{c:u1=1;b:*c{a:u1=1;d:X;};}");
        means(2, 2, "{c:u1=1;b:*c{a:u1=2;d:X;};}");
        means(2, 2, "{c:u1=9;b:?c{9:{a:u1=2;d:X;};};}");
        // An array or a choice is no structure, and the type in it no field.
        meansNone("{c:u1=1;b:*cX;}");
        meansNone("{c:u1=1;b:?c{1:X;};}");
        meansNone("{c:u1<2;b:?c{0:u1=2;1:X;};}");
        meansNone("{c:u1<2;a:?c{0:u1=2;1:X;};}");
        meansNone("{c:u1<2;a:?c{0:u1=2;1:{d:X;};};}");
    }

    private static void notInOneThatHasEnded() {
        meansNone("{b:{a:u1=2;};c:X;}");
        meansNone("{b:{a:u1=2;};c:{d:X;};}");
        meansNone("{b:{c:{a:u1=2;};d:X;};}");
        meansNone("{k:u1=1;b:*k{a:u1=2;};c:X;}");
        meansNone("{k:u1=1;b:/k{a:u1=2;};c:X;}");
        meansNone("{k:u1=1;b:?k{1:{a:u1=2;};};c:X;}");
        meansNone("{k:u1<2;b:?k{0:{a:u1=2;};1:X;};}");
        meansNone("{k:u1<2;b:?k{0:{a:u1=2;};1:{c:X;};};}");
        means(2, 2, "{a:u1=2;b:{a:u1=3;};c:X;}");
        means(2, 2, "{a:u1=2;b:{a:u1=3;};c:{d:X;};}");
        means(2, 3, "{a:u1=2;b:{a:u1=3;};b:{a:u1=1;};c:X;}");
        means(2, 3, "{a:u1=2;k:u1=1;b:*k{a:u1=3;};c:X;}");
        means(2, 3, "{a:u1=2;k:u1=1;b:/k{a:u1=3;};c:X;}");
        means(2, 3, "{a:u1=2;k:u1=1;b:?k{1:{a:u1=3;};};c:X;}");
        means(2, 3, "{b:{c:{a:u1=1;};a:u1=2;c:{a:u1=3;};d:X;};}");
    }

    private static void theLatestWithThatName() {
        means(2, 2, "{a:u1=3;a:u1=2;b:X;}");
        means(3, 2, "{a:u1=2;a:u1=3;b:X;}");
        means(1, 3, "{a:u1=2;a:u1=3;a:u1=1;b:X;}");
        means(3, 2, "{a:u1=2;b:{a:u1=3;c:X;};}");
        means(1, 3, "{a:u1=2;b:{a:u1=3;};a:u1=1;c:X;}");
        means(3, 3, "{a:u1=1;b:{a:u1=2;c:{a:u1=3;d:X;};};}");
        means(2, 3, "{a:u1=1;b:{a:u1=2;c:{a:u1=3;};d:X;};}");
        means(1, 3, "{a:u1=1;b:{a:u1=2;c:{a:u1=3;};};d:X;}");
        // Later ones with other names do not matter.
        means(2, 3, "{a:u1=2;b:u1=3;l:u1=1;c:X;}");
        means(2, 3, "{a:u1=2;b:{b:u1=3;c:u1=1;d:X;};}");
    }

    private static void everyName() {
        for (String six : new String[] {"abcdef", "ghijkl"}) {
            String fields = "";
            for (char name : six.toCharArray()) {
                fields += name + ":p4=" + six.indexOf(name) + ";";
            }
            for (char name : six.toCharArray()) {
                means(name, six.indexOf(name), 3, "{" + fields + "a:X;}");
            }
        }
        for (char name = 'a'; name <= 'l'; name++) {
            Script.run("a name of its own: " + name,
                    "format {" + name + ":u1;b:*" + name + "u1;}", "bytes 02 03 04", "reads 2 3 4");
        }
    }

    private static void theOneThatWasReadForItLast() {
        Script.run("Its VALUE is the one that was read for it last: of a structure that is read again", """
                format {l:u1<4;k:*l{a:u1<3;b:*au1;};}
                bytes 03 01 07 00 02 08 09
                reads 3 1 7 0 2 8 9
                writes 03 01 07 00 02 08 09
                format {l:u1<4;k:*l{a:u1<4;b:/au2;};}
                bytes 03 02 00 07 00 02 00 08
                reads 3 2 7 0 2 8
                writes 03 02 00 07 00 02 00 08
                format {l:u1<4;k:*l{a:u1<3;b:?a{0:{};1:u1;2:v2;};};}
                bytes 03 02 07 01 00 01 09
                reads 3 2 263 0 1 9
                writes 03 02 07 01 00 01 09
                """);
        Script.run("of one around, in each round the same", """
                format {a:u1<4;b:*a{c:*au1;};}
                bytes 02 01 02 03 04
                reads 2 1 2 3 4
                writes 02 01 02 03 04
                format {a:u1<4;b:*a{c:*au1;a:u1;};}
                bytes 02 01 02 09 03 04 08
                reads 2 1 2 9 3 4 8
                writes 02 01 02 09 03 04 08
                """);
        Script.run("the array goes on by the field that it means, whatever another of that name becomes", """
                format {a:u1<4;b:*a{a:u1;};c:*au1;}
                bytes 02 09 00 07 08
                reads 2 9 0 7 8
                writes 02 09 00 07 08
                format {a:u1<9;b:/a{a:u1;};c:/au1;}
                bytes 02 09 00 07 08
                reads 2 9 0 7 8
                writes 02 09 00 07 08
                """);
        Script.run("not the one of an earlier message", """
                format {a:u1;b:*au1;}
                bytes 03 07 08 09
                reads 3 7 8 9
                bytes 01 07
                reads 1 7
                values 2 5 6
                writes 02 05 06
                bytes 00
                reads 0
                values 1 5
                writes 01 05
                """);
        Script.run("of bits and of numbers with sign", """
                format {a:p3;b:s1<4;c:p5;d:*au1;e:*bu1;f:?c{31:u1;0:{};};}
                bytes 20 01 f8 07 08 09
                reads 1 1 31 7 8 9
                writes 20 01 f8 07 08 09
                bytes 40 00 00 07 08
                reads 2 0 0 7 8
                writes 40 00 00 07 08
                """);
    }
}
