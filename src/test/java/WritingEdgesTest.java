/** WRITING: each range that it names, too many bytes, no more VALUES, VALUES that are left. */
public final class WritingEdgesTest {
    private static final String INT_MIN = "-2147483648";
    private static final String INT_MAX = "2147483647";
    private static final String LONG_MIN = "-0x8000000000000000";
    private static final String LONG_MAX = "0x7fffffffffffffff";

    public static void main(String[] args) {
        outsideItsInterval();
        notASignedInts();
        wordsHowMany();
        wordsBytes();
        restHowMany();
        restBytes();
        tooManyBytes();
        tooManyBytesOfWordsAndRest();
        tooManyBytesOfBits();
        noMoreValues();
        noMoreValuesInWordsAndRest();
        restOfAByteIs0();
        bitsWhereTheirBitsAreWritten();
        belowZeroAndNone();
        sizedAsLongAsFewer();
        valuesAreLeft();
        spotAndNameAsBefore();
        theMessageIsWhatWasWritten();
        moreThan160CantBe();
        Script.finish("WritingEdgesTest");
    }

    private static void outsideItsInterval() {
        Script.run("WRONG if a VALUE is outside its INTERVAL", """
                format {c:u1;k:u2<500;}
                values 255 499
                writes ff 01 f3
                values 256 499
                write WRONG 0 2
                values -1 499
                write WRONG 0 2
                values 255 500
                write WRONG 1 10
                values 255 -1
                write WRONG 1 10
                values 0 0
                writes 00 00 00
                format {c:p3;k:p2>1;}
                values 7 3
                writes f8
                values 8 3
                write WRONG 0 2
                values -1 3
                write WRONG 0 2
                values 7 1
                write WRONG 0 10
                values 7 4
                write WRONG 0 10
                values 7 2
                writes f0
                """);
        Script.run("the lowest bits of a VALUE are not enough", """
                format u4
                values 0x100000000
                write WRONG 0 -1
                values -0x7fffffff00000000
                write WRONG 0 -1
                format s4
                values 0xffffffff
                write WRONG 0 -1
                values -1
                writes ff ff ff ff
                """);
    }

    private static void notASignedInts() {
        for (String in : new String[] {INT_MIN, "-2147483647", "-1", "0", "1", INT_MAX}) {
            String bytes = String.format("%08x", (int) (long) Long.decode(in)).replaceAll("(..)", "$1 ").strip();
            Script.run("a signed int's for FLOAT: " + in,
                    "format f", "values " + in, "writes " + bytes, "values", "reads " + in);
        }
        for (String out : new String[] {"-2147483649", "2147483648", "4294967295", "4294967296", LONG_MIN, LONG_MAX}) {
            Script.run("not a signed int's for FLOAT: " + out,
                    "format f", "values " + out, "write WRONG 0 -1", "format {c:u1;k:f;}", "values 1 " + out,
                    "write WRONG 1 10");
        }
        for (String in : new String[] {LONG_MIN, "-1", "0", "2147483648", LONG_MAX}) {
            String bytes = String.format("%016x", Long.decode(in)).replaceAll("(..)", "$1 ").strip();
            Script.run("any VALUE for DOUBLE: " + in,
                    "format d", "values " + in, "writes " + bytes, "values", "reads " + in);
        }
    }

    private static void wordsHowMany() {
        for (int many : new int[] {0, 1, 19, 20}) {
            Script.run("0 .. 20 (WORDS) for how many: " + many,
                    "format z", "values " + many + " 65*" + many, "writes 41*" + many + " 00");
        }
        for (String many : new String[] {"-1", "-20", "21", "22", "120", "255", "4294967296", LONG_MIN, LONG_MAX}) {
            Script.run("not 0 .. 20 (WORDS) for how many: " + many,
                    "format {c:u1;k:z;}", "values 9 " + many + " 65*22", "write WRONG 1 10", "values 9 " + many,
                    "write WRONG 1 10");
        }
    }

    private static void wordsBytes() {
        for (int b : new int[] {1, 2, 254, 255}) {
            Script.run("1 .. 255 (WORDS) for a byte: " + b,
                    "format {c:u1;k:z;}", "values 9 3 " + b + "*3", "writes 09 " + Integer.toHexString(b) + "*3 00");
        }
        for (String b : new String[] {"0", "-1", "256", "257", "-255", LONG_MIN, LONG_MAX}) {
            Script.run("not 1 .. 255 (WORDS) for a byte: " + b,
                    "format {c:u1;k:z;}", "values 9 1 " + b, "write WRONG 1 10", "values 9 3 " + b + " 65 66",
                    "write WRONG 1 10", "values 9 3 65 " + b + " 66", "write WRONG 1 10", "values 9 3 65 66 " + b,
                    "write WRONG 1 10");
        }
    }

    private static void restHowMany() {
        for (int many : new int[] {0, 1, 119, 120}) {
            Script.run("0 .. 120 (REST) for how many: " + many,
                    "format r", "values " + many + " 65*" + many, "writes" + " 41".repeat(many));
        }
        for (String many : new String[] {"-1", "-120", "121", "122", "255", "4294967296", LONG_MIN, LONG_MAX}) {
            Script.run("not 0 .. 120 (REST) for how many: " + many,
                    "format r", "values " + many + " 65*122", "write WRONG 0 -1", "values " + many,
                    "write WRONG 0 -1");
        }
    }

    private static void restBytes() {
        for (int b : new int[] {0, 1, 254, 255}) {
            Script.run("0 .. 255 (REST) for a byte: " + b,
                    "format {c:u1;k:r;}", "values 9 3 " + b + "*3", "writes 09 " + Integer.toHexString(b) + "*3");
        }
        for (String b : new String[] {"-1", "256", "257", "-255", LONG_MIN, LONG_MAX}) {
            Script.run("not 0 .. 255 (REST) for a byte: " + b,
                    "format {c:u1;k:r;}", "values 9 1 " + b, "write WRONG 1 10", "values 9 3 " + b + " 65 66",
                    "write WRONG 1 10", "values 9 3 65 " + b + " 66", "write WRONG 1 10", "values 9 3 65 66 " + b,
                    "write WRONG 1 10");
        }
    }

    private static void tooManyBytes() {
        String[][] units = {{"u1", "07"}, {"v2", "07 00"}, {"s2", "00 07"}, {"u3", "00 00 07"},
            {"v3", "07 00 00"}, {"u4", "00 00 00 07"}, {"f", "00 00 00 07"}, {"d", "00 00 00 00 00 00 00 07"},
            {"{k:u2;}", "00 07"}, {"p7", "0e"}};
        for (String[] unit : units) {
            int width = unit[1].split(" ").length;
            for (int before = 117 - width; before <= 119; before++) {
                int from = before + 1;
                String written = Integer.toHexString(before) + " 09*" + before + " " + unit[1];
                Script.run("at most 120 bytes: " + width + " behind " + from,
                        "format {a:u1;b:*au1;k:" + unit[0] + ";}", "values " + before + " 9*" + before + " 7",
                        from + width <= 120 ? "writes " + written : "write WRONG " + from + " 10");
            }
        }
        Script.run("what takes no byte still fits",
                "format {a:u1;b:*au1;k:{};}", "values 119 9*119", "writes 77 09*119");
        for (int many : new int[] {120, 121, 150}) {
            Script.run("in the midst of an array",
                    "format {a:u1;b:*au1;}", "values " + many + " 9*" + many, "write WRONG 120 1");
        }
        Script.run("at the end of an array",
                "format {a:u1;b:*au1;}", "values 119 9*119", "writes 77 09*119");
        Script.run("and in one by bytes",
                "format {a:u1;b:/au2;}", "values 118 9*59", "writes 76" + " 00 09".repeat(59), "values 120 9*60",
                "write WRONG 119 1");
    }

    private static void tooManyBytesOfWordsAndRest() {
        for (int many : new int[] {0, 1, 2, 20}) {
            for (int free = 0; free <= many + 2; free++) {
                int before = 119 - free;
                String values = "values " + before + " 9*" + before + " " + many + " 65*" + many;
                String written = Integer.toHexString(before) + " 09*" + before + " 41*" + many;
                String wrong = "write WRONG " + (120 - free) + " 10";
                Script.run("WORDS of " + many + " bytes and the 0, where " + free + " fit",
                        "format {a:u1;b:*au1;k:z;}", values, many + 1 <= free ? "writes " + written + " 00" : wrong);
                Script.run("REST of " + many + " bytes, where " + free + " fit",
                        "format {a:u1;b:*au1;k:r;}", values, many <= free ? "writes " + written : wrong);
            }
        }
        Script.run("REST of 120 bytes, where 119 fit", """
                format {c:u1;k:r;}
                values 9 119 65*119
                writes 09 41*119
                values 9 120 65*120
                write WRONG 1 10
                """);
    }

    private static void tooManyBytesOfBits() {
        Script.run("the last bit of the last byte", """
                format {a:u1=118;b:*au1;c:p7;d:p1;e:{};}
                values 118 9*118 127 1
                writes 76 09*118 ff
                """);
        Script.run("one bit more", """
                format {a:u1=118;b:*au1;c:p7;d:p1;e:p1;}
                values 118 9*118 127 1 0
                write WRONG 120 4
                values 118 9*118 127 1
                write END 120 4
                """);
        Script.run("bits that begin in the last byte", """
                format {a:u1=118;b:*au1;c:p6;d:p3;}
                values 118 9*118 63 0
                write WRONG 119 3
                values 118 9*118 63 8
                write WRONG 119 3
                values 118 9*118 63
                write END 119 3
                """);
        Script.run("the rest of the last byte", """
                format {a:u1=118;b:*au1;c:p1;d:u1;}
                values 118 9*118 1 0
                write WRONG 120 3
                """);
    }

    private static void noMoreValues() {
        String[][] units = {{"u1", "1"}, {"v2", "2"}, {"s3", "3"}, {"u4", "4"}, {"f", "4"}, {"d", "8"}, {"z", "1"}, {"r", "0"},
            {"p3", "1"}};
        for (String[] unit : units) {
            Script.run("END if there are no more VALUES: " + unit[0],
                    "format {k:" + unit[0] + ";}", "values", "write END 0 10", "format {c:u2;k:" + unit[0] + ";}", "write END 0 2",
                    "values 9", "write END 2 10", "set(1, 0) = 2", "writes 00 09 00*" + unit[1]);
        }
        Script.run("what takes none", """
                format {a:{};b:{c:{};};}
                values
                writes
                format {}
                writes
                format {a:u1;b:*au1;c:/au1;d:?a{0:{};};}
                values 0
                writes 00
                """);
        Script.run("in arrays and cases", """
                format {a:u1;b:*au2;}
                values 2
                write END 1 1
                values 2 5
                write END 3 1
                values 2 5 6
                writes 02 00 05 00 06
                format {a:u1;b:/au2;}
                values 4
                write END 1 1
                values 4 5
                write END 3 1
                values 4 5 6
                writes 04 00 05 00 06
                format {a:u1;b:?a{4:u2;};}
                values 4
                write END 1 1
                values 4 5
                writes 04 00 05
                """);
    }

    private static void noMoreValuesInWordsAndRest() {
        for (int many : new int[] {1, 2, 20}) {
            for (String unit : new String[] {"z", "r"}) {
                Script.run("END in the midst: " + unit,
                        "format {c:u1;k:" + unit + ";}", "values 9 " + many + " 65*" + (many - 1), "write END 1 10",
                        "values 9 " + many + " 65*" + many, "writes 09 41*" + many + (unit.equals("z") ? " 00" : ""));
            }
        }
        Script.run("what is taken first is told first", """
                format z
                values 3 0
                write WRONG 0 -1
                values 3 1 256
                write WRONG 0 -1
                values 3 1
                write END 0 -1
                values 21
                write WRONG 0 -1
                format r
                values 3 256
                write WRONG 0 -1
                values 3 0
                write END 0 -1
                values 121
                write WRONG 0 -1
                """);
    }

    private static void restOfAByteIs0() {
        for (int n = 1; n <= 23; n++) {
            int full = n / 7;
            int last = n % 7;
            String text = "{" + "a:p7;".repeat(full) + (last > 0 ? "b:p" + last + ";" : "") + "}";
            String values = ("127 ".repeat(full) + (last > 0 ? (1 << last) - 1 : "")).strip();
            StringBuilder bytes = new StringBuilder();
            for (int from = 0; from < n; from += 8) {
                bytes.append(String.format(" %02x", n - from >= 8 ? 255 : 255 << 8 - (n - from) & 255));
            }
            Script.run("a byte's rest is 0, behind " + n + " bits",
                    "bytes ff*9", "format " + text, "values " + values, "writes" + bytes,
                    "format {k:" + text + ";l:u1;}", "values " + values + " 129", "writes" + bytes + " 81");
        }
        Script.run("before another TYPE", """
                format {a:p3;b:u1;c:p3;d:{};e:p3;f:{g:p3;};h:p3;}
                values 7 129 7 7 7 7
                writes e0 81 e0 e0 e0 e0
                """);
    }

    private static void bitsWhereTheirBitsAreWritten() {
        Script.run("END and WRONG of bits, SPOT the byte of the first of them", """
                format {a:p7;b:p1;c:p1;d:p7;e:p2;}
                values
                write END 0 0
                values 0
                write END 0 1
                values 0 2
                write WRONG 0 1
                values 0 0
                write END 1 2
                values 0 0 2
                write WRONG 1 2
                values 0 0 0
                write END 1 3
                values 0 0 0 128
                write WRONG 1 3
                values 0 0 0 0
                write END 2 4
                values 0 0 0 0 4
                write WRONG 2 4
                values 1 1 1 1 3
                writes 03 81 c0
                format {a:p6;b:p4;}
                values 0
                write END 0 1
                values 0 16
                write WRONG 0 1
                values 63 15
                writes ff c0
                """);
    }

    private static void belowZeroAndNone() {
        for (String array : new String[] {"*au1", "/au1", "?a{0:{};1:u1;}"}) {
            String text = "format {a:s1;k:u1;b:" + array + ";}\n";
            Script.run("That VALUE is below 0: WRONG: " + array, text + """
                    values -1 9
                    write WRONG 1 10
                    values -128 9
                    write WRONG 1 10
                    values 0 9
                    writes 00 09
                    values 1 9 7
                    writes 01 09 07
                    values -1 9 7
                    write WRONG 1 10
                    values -1
                    write END 1 10
                    """);
        }
        Script.run("CHOICE: none: WRONG", """
                format {a:u2;k:u1;b:?a{5:u1;0:v2;999:{};};}
                values 4 9 7
                write WRONG 2 10
                values 6 9
                write WRONG 2 10
                values 1 9
                write WRONG 2 10
                values 998 9
                write WRONG 2 10
                values 1000 9
                write WRONG 2 10
                values 5 9 7
                writes 00 05 09 07
                values 0 9 7
                writes 00 00 09 07 00
                values 999 9
                writes 03 e7 09
                """);
    }

    private static void sizedAsLongAsFewer() {
        String[][] units = {{"u1", "1"}, {"v2", "2"}, {"u3", "3"}, {"f", "4"}, {"d", "8"}};
        for (String[] unit : units) {
            int width = Integer.parseInt(unit[1]);
            for (int wanted = 0; wanted <= 17; wanted++) {
                int rounds = (wanted + width - 1) / width;
                String written = Integer.toHexString(wanted) + " 00*" + rounds * width + " 07";
                Script.run("SIZED: as long as fewer bytes than " + wanted + " were written, " + width + " at once",
                        "format {a:u1;b:/a" + unit[0] + ";c:u1;}", "values " + wanted + " 0*" + rounds + " 7",
                        wanted % width == 0 ? "writes " + written : "write WRONG " + (1 + (rounds - 1) * width) + " 1");
            }
        }
        Script.run("of words and bits", """
                format {a:u1;b:/az;c:u1;}
                values 3 2 65 66 9
                writes 03 41 42 00 09
                values 2 2 65 66 9
                write WRONG 1 1
                values 4 2 65 66 0 9
                writes 04 41 42 00 00 09
                values 4 2 65 66 1 67 9
                write WRONG 4 1
                format {a:p3;b:/a{c:p3;};d:p3;}
                values 2 1 2 3
                writes 40 20 40 60
                values 0 3
                writes 00 60
                """);
    }

    private static void valuesAreLeft() {
        for (int left : new int[] {1, 2, 100}) {
            Script.run("VALUES are left: " + left,
                    "format {c:u1;k:u2;}", "bytes 05 06", "values 1 2 7*" + left, "write LEFT -1 -1", "message 05 06",
                    "holds 1 2 7*" + left, "drop(2, " + left + ") = 2", "writes 01 00 02");
        }
        Script.run("all are left", """
                format {}
                bytes 05
                values 1
                write LEFT -1 -1
                message 05
                values
                writes
                """);
        Script.run("where 160 are there", """
                format {c:u1;k:*cu1;}
                values 118 9*159
                write LEFT -1 -1
                drop(119, 41) = 119
                writes 76 09*118
                """);
        Script.run("behind WORDS and REST", """
                format z
                values 1 65 66
                write LEFT -1 -1
                values 0 65
                write LEFT -1 -1
                format r
                values 1 65 66
                write LEFT -1 -1
                values 0 65
                write LEFT -1 -1
                values 0
                writes
                """);
    }

    private static void spotAndNameAsBefore() {
        Script.run("SPOT and NAME are told for END and WRONG, and are as before otherwise", """
                format {c:u1;k:u2;}
                values 1
                write END 1 10
                values 1 2
                writes 01 00 02
                count(3) = 1
                count(4) = 10
                values 1 2 3
                write LEFT 1 10
                values 256 2
                write WRONG 0 2
                values 1 2
                writes 01 00 02
                count(3) = 0
                count(4) = 2
                values 1 2 3
                write LEFT 0 2
                bytes 01 02 03 04
                read LEFT 3 -1
                values 1 2
                writes 01 00 02
                count(3) = 3
                count(4) = -1
                values 1 2 3
                write LEFT 3 -1
                """);
        Script.run("nothing is compiled: they stay too", """
                format {c:u1;k:u2;}
                values 1
                write END 1 10
                text u
                compile() = throws.UnsupportedOperationException
                write() = throws.UnsupportedOperationException
                count(3) = 1
                count(4) = 10
                holds 1
                """);
        for (char name = 'a'; name <= 'l'; name++) {
            int number = name - 'a';
            Script.run("NAME: 0 a .. 11 l: " + name,
                    "format {" + name + ":u1;}", "values", "write END 0 " + number, "values 256",
                    "write WRONG 0 " + number, "format {k:{" + name + ":f;};}", "values", "write END 0 " + number,
                    "format {" + name + ":{};k:f;}", "write END 0 10");
        }
    }

    private static void theMessageIsWhatWasWritten() {
        Script.run("The MESSAGE is what was written, whatever it was", """
                format {a:u1;b:*au1;}
                values 2 7 8
                writes 02 07 08
                values 0
                writes 00
                values 119 7*119
                writes 77 07*119
                """);
        Script.run("a full one becomes empty, and the VALUES stay", """
                bytes 07*120
                format {}
                values
                writes
                byteAt(0) = throws.IndexOutOfBoundsException
                format {a:u1;b:*au1;}
                values 2 7 8
                writes 02 07 08
                holds 2 7 8
                """);
        Script.run("END and WRONG and what is left: the MESSAGE stays", """
                bytes 05 06
                format {a:u1;b:u2;}
                values 1
                write END 1 1
                message 05 06
                values 1 65536
                write WRONG 1 1
                message 05 06
                values 1 2 3
                write LEFT 1 1
                message 05 06
                drop(2, 1) = 2
                writes 01 00 02
                """);
    }

    private static void moreThan160CantBe() {
        Script.run("all 160 may be written", """
                format {a:u1;b:*a{c:p1;d:p1;e:p1;};}
                values 53 1*159
                writes 35 e0*53
                values
                reads 53 1*159
                """);
    }
}
