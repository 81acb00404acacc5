/** Each clause of SOUND, on both sides. */
public final class SoundEdgesTest {
    public static void main(String[] args) {
        bitsAreOnlyFieldsTypes();
        restIsTheWholeOrTheLastOfTheWhole();
        everyNameMeansAField();
        figuresInTheInterval();
        noTwoAlike();
        mostOfACountedAboveZero();
        leastOfASizedAboveZero();
        noMostAbove1000();
        wholeOnly();
        nothingIsCompiledThen();
        Script.finish("SoundEdgesTest");
    }

    private static void bitsAreOnlyFieldsTypes() {
        Texts.areUnsound("p1", "p7", "p3<1", "{a:u1;b:*ap1;}", "{a:u1;b:/ap1;}", "{a:u1;b:?a{0:p1;};}");
        Texts.areUnsound("{a:u1;b:?a{0:{c:p1;};1:p1;};}", "{a:u1;b:?a{0:p1;1:{c:p1;};};}", "{a:p1;b:*ap1;}");
        Texts.areUnsound("{a:u1<9;b:*a*ap1;}", "{a:{b:{c:u1;d:*cp1;};};}");
        Texts.compile(1, "{a:p1;}", "{a:{b:{c:{d:p1;};};};}");
        Texts.compile(256, "{a:u1;b:*a{c:p1;};}", "{a:u1;b:/a{c:p1;};}");
        Texts.compile(2, "{a:u1;b:?a{0:{c:p1;};};}");
    }

    private static void restIsTheWholeOrTheLastOfTheWhole() {
        Texts.compile(120, "r", "{a:r;}", "{a:{};b:r;}", "{a:{b:{};};c:r;}");
        Texts.compile(121, "{a:u1;b:r;}", "{a:p1;b:r;}");
        Texts.compile(136, "{" + "a:u1;".repeat(16) + "b:r;}");
        // Not the last of it.
        Texts.areUnsound("{a:r;b:u1;}", "{a:r;b:{};}", "{a:r;b:p1;}", "{a:r;b:r;}", "{a:u1;b:r;c:u1;}", "{a:r;b:*cu1;}");
        // The last, but not of the whole.
        Texts.areUnsound("{a:{b:r;};}", "{a:u1;b:{c:r;};}", "{a:u1;b:{c:u1;d:r;};}", "{a:{b:r;};c:r;}", "{a:{b:{c:r;};};}");
        Texts.areUnsound("{a:u1<2;b:?a{0:r;};}", "{a:u1<2;b:?a{0:u1;1:r;};}", "{a:u1<2;b:*ar;}", "{a:u1<2;b:/ar;}");
        Texts.areUnsound("{a:u1<2;b:?a{0:{c:r;};};}", "{a:u1<2;b:*a{c:u1;d:r;};}", "{a:u1<2;b:/a{c:u1;d:r;};}");
        // The whole is no structure.
        Texts.areUnsound("*ar", "/ar", "?a{0:r;}", "*a{b:r;}", "?a{0:{b:r;};}");
    }

    private static void everyNameMeansAField() {
        Texts.areUnsound("*au1", "/au1", "?a{0:u1;}", "{b:*au1;}", "{b:/au1;}", "{b:?a{0:u1;};}");
        Texts.areUnsound("{b:u1;c:*au1;}", "{b:u1;c:/au1;}", "{b:u1;c:?a{0:u1;};}", "{a:u1;b:*au1;c:*lu1;}");
        // One of several is enough, wherever it stands.
        Texts.areUnsound("{a:u1<3;b:*a*cu1;}", "{a:u1<3;b:*c*au1;}", "{a:u1<2;b:?a{0:u1;1:*cu1;};}", "{a:u1<2;b:?a{0:*cu1;1:u1;};}");
        Texts.compile(5, "{a:u1<3;b:*a*au1;}", "{a:u1<5;b:*au1;}", "{a:u1<5;b:/au1;}", "{a:u1;b:?a{0:f;};}");
    }

    private static void figuresInTheInterval() {
        inside("u1", 0, 255);
        inside("u1<50", 0, 49);
        inside("u1>50", 51, 255);
        inside("v1=50", 50, 50);
        inside("s1", 0, 127);
        inside("s1>50", 51, 127);
        inside("s1<50", 0, 49);
        inside("u4", 0, 999);
        inside("s2", 0, 999);
        inside("u2>500", 501, 999);
        for (int n = 1; n <= 7; n++) {
            inside("p" + n, 0, (1 << n) - 1);
        }
        inside("p7>50", 51, 127);
        Texts.areUnsound("{a:s1<0;b:?a{0:u1;};}");
        // Each of several, and the inner ones by their own field.
        Texts.areUnsound("{a:p1;b:?a{0:f;1:f;2:f;};}", "{a:p1;b:?a{2:f;0:f;1:f;};}", "{a:p1;b:?a{0:f;2:f;1:f;};}");
        Texts.areUnsound("{a:p1;b:p2;c:?a{0:?b{4:f;};};}", "{a:p1;b:p2;c:?b{0:?a{2:f;};};}");
        Texts.compile(5, "{a:p1;b:?a{0:f;1:f;};}", "{a:p1;b:p2;c:?a{1:?b{3:f;};};}", "{a:p1;b:p2;c:?b{3:?a{1:f;};};}");
        // Of the field that is meant.
        Texts.compile(6, "{a:p1;a:u1;b:?a{9:f;};}");
        Texts.areUnsound("{a:u1;a:p1;b:?a{9:f;};}");
    }

    /** These two figures can be, and none outside them. */
    private static void inside(String field, int low, int high) {
        int most = 4 + (field.charAt(0) == 'p' ? 1 : field.charAt(1) - '0');
        for (int figure : new int[] {low, high}) {
            Texts.compile(most, "{a:" + field + ";b:?a{" + figure + ":f;};}");
        }
        for (int figure : new int[] {low - 1, high + 1}) {
            if (figure >= 0 && figure <= 999) {
                Texts.areUnsound("{a:" + field + ";b:?a{" + figure + ":f;};}");
            }
        }
    }

    private static void noTwoAlike() {
        Texts.areUnsound("{a:u1;b:?a{0:f;0:f;};}", "{a:u1;b:?a{0:f;00:d;};}", "{a:u1;b:?a{1:f;001:d;};}", "{a:u1;b:?a{010:f;10:d;};}");
        Texts.areUnsound("{a:u1;b:?a{1:f;2:f;1:f;};}", "{a:u1;b:?a{1:f;2:f;2:f;};}", "{a:u1;b:?a{1:f;1:f;2:f;};}");
        Texts.areUnsound("{a:u1;b:?a{1:f;2:f;3:f;4:f;1:f;};}", "{a:u2;b:?a{999:f;0:f;999:f;};}");
        Texts.areUnsound("{a:u1;b:?a{0:?a{1:f;1:f;};};}", "{a:u1;b:?a{0:?a{1:f;};0:f;};}");
        Texts.compile(5, "{a:u1;b:?a{0:f;1:f;};}", "{a:u1;b:?a{1:f;10:f;100:f;};}", "{a:u1;b:?a{1:f;02:f;};}");
        // Another choice has figures of its own.
        Texts.compile(5, "{a:u1;b:?a{1:?a{1:f;};};}", "{a:u1;b:?a{1:?a{1:f;2:f;};2:?a{1:f;2:f;};};}");
        Texts.compile(9, "{a:u1;b:?a{1:f;};c:?a{1:f;};}");
    }

    private static void mostOfACountedAboveZero() {
        for (String none : new String[] {"{}", "{c:{};}", "*bu1", "/bu1", "?a{0:{};1:{c:{};};}", "{c:*bu1;d:{};}", "*b*ad"}) {
            Texts.areUnsound("{a:u1<9;b:u1=0;d:*a" + none + ";}", "{a:u1=0;b:u1=0;d:*a" + none + ";}");
            Texts.areUnsound("{a:u1<9;b:s1<1;d:*a" + none + ";}", "{a:u1<9;b:s1<0;d:*a" + none + ";}");
        }
        // A MOST of 1 is enough, and the LEAST may be 0.
        Texts.compile(10, "{a:u1<9;b:u1<2;d:*a*bu1;}", "{a:u1<9;b:u1<2;d:*a/bu1;}", "{a:u1<9;b:u1;d:*a?b{0:{};1:u1;};}");
        Texts.compile(9, "{a:u1<9;b:*au1;}", "{a:u1<9;b:*a{c:p1;};}", "{a:u1<9;b:*a?a{0:{};1:u1;};}");
        // The array itself may have no bytes.
        Texts.compile(1, "{a:u1=0;b:*au1;}", "{a:s1<0;b:*au1;}", "{a:u1<1;b:*ad;}");
    }

    private static void leastOfASizedAboveZero() {
        for (String maybeNone : new String[] {"{}", "{c:{};}", "*bu1", "/bu1", "?b{0:{};1:u1;}", "?b{0:u1;1:{};}", "{c:*bu1;}", "*bz"}) {
            Texts.areUnsound("{a:u1<9;b:u1<2;d:/a" + maybeNone + ";}", "{a:u1=0;b:u1<2;d:/a" + maybeNone + ";}");
            Texts.areUnsound("{a:u1<9;b:s1<2;d:/a" + maybeNone + ";}", "{a:s1<0;b:u1<2;d:/a" + maybeNone + ";}");
        }
        // A LEAST of 1 is enough.
        Texts.compile(10, "{a:u1<9;b:u1=1;d:/a*bu1;}", "{a:u1<9;b:u1>0;d:/a/bu1;}", "{a:u1<9;b:u1;d:/a?b{0:u1;1:d;};}");
        Texts.compile(10, "{a:u1<9;b:s1>0;d:/a*bu1;}", "{a:u1<9;b:p1>0;d:/a/bz;}", "{a:u1<9;b:p1;d:/a{c:*bu1;e:p1;};}");
        Texts.compile(9, "{a:u1<9;b:/au1;}", "{a:u1<9;b:/a{c:p1;};}", "{a:u1<9;b:/az;}", "{a:u1<9;b:/ad;}");
        // The array itself may have no bytes.
        Texts.compile(1, "{a:u1=0;b:/au1;}", "{a:s1<0;b:/au1;}");
    }

    private static void noMostAbove1000() {
        Texts.compile(999, "{a:u2=997;b:*au1;}", "{a:u2=997;b:/au1;}");
        Texts.compile(1000, "{a:u2=998;b:*au1;}", "{a:u2=998;b:/au1;}", "{a:u2<999;b:*au1;}", "{a:u2=499;b:*au2;}");
        Texts.areUnsound("{a:u2=999;b:*au1;}", "{a:u2=999;b:/au1;}", "{a:u2=500;b:*au2;}", "{a:u3=998;b:/au1;}");
        Texts.compile(1000, "{a:u2=997;b:*au1;c:p1;}", "{a:u2=997;b:*au1;c:u1;}", "{c:p7;a:u2=997;b:/au1;}");
        Texts.areUnsound("{a:u2=998;b:*au1;c:p1;}", "{a:u2=998;b:/au1;c:u1;}", "{a:u2=998;b:{c:*au1;};d:z;}");
        Texts.compile(1000, "{a:u2=998;b:?a{998:*au1;};}", "{a:u2=998;b:*au1;c:{};}", "{a:u2=998;b:{c:{d:*au1;};};}");
        Texts.compile(1000, "{a:u2=878;b:/au1;c:r;}");
        Texts.areUnsound("{a:u2=879;b:/au1;c:r;}");
        // One in it that is too great, even if there is none of it.
        Texts.compile(4, "{a:u2=0;b:u2=500;c:*a*bu2;}", "{a:u2=0;b:u2=500;c:*a?b{500:*bu2;};}", "{a:u2=0;b:u2=999;c:*a/bu2;}");
        Texts.areUnsound("{a:u2=0;b:u2=501;c:*a*bu2;}", "{a:u2=0;b:u2=501;c:*a?b{501:*bu2;};}", "{a:u2=0;b:u2;c:*a/bu2;}");
        Texts.areUnsound("{a:u2=1;b:u2=501;c:/a*bu2;}", "{a:u2=0;b:u2;c:*a{d:/bu1;};}", "{a:u2=0;b:u2;c:/a{e:p1;d:*bu1;};}");
        Texts.compile(2, "{a:u2=0;b:*a{c:u2=998;d:*cu1;};}", "{a:u2=0;b:/a{c:u2=998;d:/cu1;};}");
        Texts.areUnsound("{a:u2=0;b:*a{c:u2=998;d:*cu1;e:p1;};}", "{a:u2=0;b:/a{c:u2=998;d:/cu1;e:p1;};}");
        // Of a choice each case counts.
        Texts.areUnsound("{a:u2;b:?a{0:u1;1:*au1;2:u1;};}", "{a:u2;b:?a{0:*au1;1:u1;};}", "{a:u2;b:?a{0:u1;1:/au1;};}");
        // Far above it, so that 32 or 64 bits would not hold it.
        Texts.areUnsound("{a:u4;b:*au1;}", "{a:u4;b:/au1;}", "{a:v4;b:*au4;}", "{a:s4;b:*au2;}", "{a:s4;b:*af;}", "{a:u3;b:*ad;}");
        Texts.areUnsound("{a:u4;b:*a*au1;}", "{a:u4;b:*a*a*au1;}", "{a:s4;b:*a*a*au4;}", "{a:u4;b:*a{c:*au1;d:*au1;};}");
        Texts.areUnsound("{a:u4;b:u1=0;c:*b*a*au1;}", "{a:u4>0;b:*a*a*ad;}");
    }

    private static void wholeOnly() {
        Texts.areNoTypes("", "u", "u1<", "{", "{a:u1", "{a:u1;", "u11", "{}}", "{a:u1;}u1", "*a", "?a{0:u1;", "x");
        Texts.areNoTypes("{a:{b:{c:{d:{e:u1;};};};};}");
        // What is neither whole nor sound is not whole.
        Texts.areNoTypes("p1x", "{a:u1<0;", "*au1;", "{a:*bu1;", "{a:r;b:r;");
        Texts.compile(1, "u1");
    }

    private static void nothingIsCompiledThen() {
        Script.run("no whole type: nothing is compiled then", """
                format {a:u1;b:z;}
                bytes 01 00
                reads 1 0
                text {a:u1;b:z;
                compile() = throws.UnsupportedOperationException
                count(0) = 10
                count(5) = 0
                size(false) = throws.NoSuchElementException
                size(true) = throws.NoSuchElementException
                read() = throws.UnsupportedOperationException
                write() = throws.UnsupportedOperationException
                compile() = throws.UnsupportedOperationException
                type(0x7d) = 11
                count(5) = 0
                compile() = 22
                count(5) = 1
                reads 1 0
                """);
        Script.run("not sound: nothing is compiled then", """
                format {a:u1;b:z;}
                bytes 01 00
                reads 1 0
                text {a:r;b:z;}
                compile() = throws.IllegalStateException
                count(0) = 10
                count(5) = 0
                size(false) = throws.NoSuchElementException
                size(true) = throws.NoSuchElementException
                read() = throws.UnsupportedOperationException
                write() = throws.UnsupportedOperationException
                holds 1 0
                message 01 00
                compile() = throws.IllegalStateException
                clear() = 10
                count(5) = 0
                format {b:u2;}
                count(5) = 1
                reads 256
                """);
        Script.run("an empty text is no type", """
                compile() = throws.UnsupportedOperationException
                format u1
                clear() = 2
                count(5) = 1
                size(true) = 1
                compile() = throws.UnsupportedOperationException
                count(5) = 0
                """);
    }
}
