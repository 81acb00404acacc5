/** real. */
public final class Promise12Test {
    public static void main(String[] args) {
        Script.run("there is none", """
                real(0) = throws.IndexOutOfBoundsException
                real(-1) = throws.IndexOutOfBoundsException
                values 5 6
                real(2) = throws.IndexOutOfBoundsException
                real(-1) = throws.IndexOutOfBoundsException
                real(160) = throws.IndexOutOfBoundsException
                real(2147483647) = throws.IndexOutOfBoundsException
                real(-2147483648) = throws.IndexOutOfBoundsException
                """);
        Script.run("the double whose bits it is", """
                values 0 0x3ff0000000000000 0x3ff8000000000000 -0x4010000000000000 0x4059000000000000
                real(0) = 0.0
                real(1) = 1.0
                real(2) = 1.5
                real(3) = -1.0
                real(4) = 100.0
                """);
        Script.run("what is no number is 0.0", """
                values 0x7ff8000000000000 0x7ff0000000000001 0x7fffffffffffffff -1 -0xfffffffffffff
                real(0) = 0.0
                real(1) = 0.0
                real(2) = 0.0
                real(3) = 0.0
                real(4) = 0.0
                value(3) = -1
                """);
        Script.run("the infinite ones are numbers", """
                values 0x7ff0000000000000 -0x10000000000000
                real(0) = Infinity
                real(1) = -Infinity
                """);
        sameAsTheLibrarys(0L, 1L, 2L, 3L, 1193046L, Long.MIN_VALUE, Long.MIN_VALUE + 1);
        sameAsTheLibrarys(0x000fffffffffffffL, 0x0010000000000000L, 0x0010000000000001L, 0x001fffffffffffffL);
        sameAsTheLibrarys(0x7fefffffffffffffL, 0xffefffffffffffffL, 0x7fe0000000000000L, 0x800fffffffffffffL);
        sameAsTheLibrarys(0x4340000000000001L, 0x4330000000000001L, 0x4320000000000001L, 0x3fefffffffffffffL);
        for (double d : new double[] {0.1, -0.3, 1e-300, 1e300, 1.0 / 3, Math.PI, Double.MIN_VALUE, 123456.789e-320}) {
            sameAsTheLibrarys(Double.doubleToRawLongBits(d));
        }
        for (long exponent = 0; exponent < 2047; exponent++) {
            sameAsTheLibrarys(exponent << 52, exponent << 52 | 0xdeadbeef12345L, 1L << 63 | exponent << 52 | 0xfffffffffffffL);
        }
        Script.finish("Promise12Test");
    }

    private static void sameAsTheLibrarys(long... values) {
        FormatForge forge = new FormatForge();
        for (long v : values) {
            forge.set(0, v);
            // The texts are compared, so that 0.0 and -0.0 are not the same.
            Script.check("real of " + v, Calls.answer(forge, "real(0)"), "" + Double.longBitsToDouble(v));
        }
    }
}
