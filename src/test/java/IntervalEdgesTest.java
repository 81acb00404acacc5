/** INTERVALS: their ends and what is next to them, of all NUMBERS and BITS, without limits and with. */
public final class IntervalEdgesTest {
    private static final int[] FIGURES = {0, 1, 2, 3, 7, 8, 15, 16, 31, 32, 63, 64, 126, 127, 128, 129, 254, 255, 256, 257, 998, 999};

    public static void main(String[] args) {
        for (int n = 1; n <= 4; n++) {
            for (String kind : new String[] {"u", "v", "s"}) {
                withAllLimits(kind, n);
            }
        }
        for (int n = 1; n <= 7; n++) {
            withAllLimits("p", n);
        }
        knownEnds();
        emptyOnes();
        Script.finish("IntervalEdgesTest");
    }

    private static void withAllLimits(String kind, int n) {
        check(kind, n, ' ', 0);
        for (int figure : FIGURES) {
            check(kind, n, '<', figure);
            check(kind, n, '>', figure);
            check(kind, n, '=', figure);
        }
    }

    private static void check(String kind, int n, char how, int figure) {
        int bits = kind.equals("p") ? n : 8 * n;
        long all = 1L << bits;
        long first = kind.equals("s") ? -all / 2 : 0;
        long last = first + all - 1;
        long low = how == '>' ? Math.max(first, figure + 1) : how == '=' ? figure : first;
        long high = how == '<' ? Math.min(last, figure - 1) : how == '=' ? figure : last;
        String type = kind + n + (how == ' ' ? "" : "" + how + figure);
        String text = kind.equals("p") ? "{a:" + type + ";}" : type;
        if (low < first || high > last || low > high) {
            Texts.areUnsound(text);
            return;
        }
        String name = kind.equals("p") ? " 0 0" : " 0 -1";
        StringBuilder lines = new StringBuilder("format " + text + "\n");
        for (long v : new long[] {low, high}) {
            lines.append("values " + v + "\nwrites " + bytes(kind, n, v) + "\nvalues\nreads " + v + "\n");
        }
        for (long v : new long[] {low - 1, high + 1}) {
            lines.append("values " + v + "\nwrite WRONG" + name + "\n");
            if (v >= first && v <= last) {
                lines.append("bytes " + bytes(kind, n, v) + "\nread WRONG" + name + "\n");
            }
        }
        Script.run("interval of " + type, lines.toString());
    }

    private static String bytes(String kind, int n, long v) {
        if (kind.equals("p")) {
            return String.format("%02x", v << 8 - n);
        }
        StringBuilder bytes = new StringBuilder();
        for (int k = 0; k < n; k++) {
            int shift = kind.equals("v") ? 8 * k : 8 * (n - 1 - k);
            bytes.append(String.format("%02x ", v >> shift & 255));
        }
        return bytes.toString().strip();
    }

    /** Once more by hand, so that the formula above is looked at too. */
    private static void knownEnds() {
        Script.run("u and v 0 .. 256^n - 1", """
                format u1
                values 255
                writes ff
                values 256
                write WRONG 0 -1
                values -1
                write WRONG 0 -1
                format v3
                values 16777215
                writes ff ff ff
                values 16777216
                write WRONG 0 -1
                values 1
                writes 01 00 00
                format u4
                values 4294967295
                writes ff ff ff ff
                values 4294967296
                write WRONG 0 -1
                values -0x8000000000000000
                write WRONG 0 -1
                values 0x7fffffffffffffff
                write WRONG 0 -1
                """);
        Script.run("s half of that below 0 and the rest", """
                format s1
                values -128
                writes 80
                reads -128
                values -129
                write WRONG 0 -1
                values 127
                writes 7f
                values 128
                write WRONG 0 -1
                format s4
                values -2147483648
                writes 80 00 00 00
                values -2147483649
                write WRONG 0 -1
                values 2147483648
                write WRONG 0 -1
                """);
        Script.run("BITS 0 .. 2^n - 1", """
                format {a:p1;}
                values 1
                writes 80
                values 2
                write WRONG 0 0
                values -1
                write WRONG 0 0
                format {a:p7;}
                values 127
                writes fe
                values 128
                write WRONG 0 0
                """);
        Script.run("less than, greater than, or equal to the figure only", """
                format u2<300
                bytes 01 2b
                reads 299
                bytes 01 2c
                read WRONG 0 -1
                bytes 01 2d
                read WRONG 0 -1
                format u2>300
                bytes 01 2d
                reads 301
                bytes 01 2c
                read WRONG 0 -1
                bytes 01 2b
                read WRONG 0 -1
                format u2=300
                bytes 01 2c
                reads 300
                bytes 01 2b
                read WRONG 0 -1
                bytes 01 2d
                read WRONG 0 -1
                """);
    }

    private static void emptyOnes() {
        Texts.areUnsound("u1<0", "v4<0", "u1>255", "u1=256", "v1>255", "s1>127", "s1=128", "{a:p1>1;}", "{a:p1=2;}", "{a:p7>127;}");
        Texts.compile(1, "u1<1", "u1>254", "u1=255", "v1=0", "s1<0", "s1>126", "s1=127", "{a:p1>0;}", "{a:p1=1;}", "{a:p7>126;}");
        Texts.compile(2, "u2=256", "u2>256", "s2=128", "s2>127", "v2>999");
        // Wherever the type stands, and be it never read.
        Texts.areUnsound("{a:u1;b:u1<0;}", "{b:u1<0;a:u1;}", "{a:{b:{c:{d:u1<0;};};};}", "{a:u1=0;b:*au1<0;}", "{a:u1=0;b:/au1<0;}");
        Texts.areUnsound("{a:u1<2;b:?a{0:u1<0;1:u1;};}", "{a:u1<2;b:?a{0:u1;1:u1<0;};}", "{a:u1=0;b:?a{0:u1>255;};}");
        Texts.compile(2, "{a:u1;b:u1<1;}", "{a:u1<2;b:?a{0:u1<1;1:u1;};}");
    }
}
