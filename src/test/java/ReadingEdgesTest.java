/** READING: where END and WRONG begin, for each kind of unit, and SPOT and NAME there. */
public final class ReadingEdgesTest {
    /** Units of a fixed width: the text and how many bytes. */
    private static final String[][] FIXED = {{"u1", "1"}, {"u2", "2"}, {"u3", "3"}, {"u4", "4"}, {"v1", "1"}, {"v2", "2"},
        {"v3", "3"}, {"v4", "4"}, {"s1", "1"}, {"s2", "2"}, {"s3", "3"}, {"s4", "4"}, {"f", "4"}, {"d", "8"}};
    /** A format of so many values behind which one more unit k stands: the format and a message up to k. */
    private static final String WITH_159 = "{a:u1;b:*a{c:p1;d:p1;};k:X;}";
    private static final String BYTES_OF_159 = "4f c0*79";
    private static final String WITH_160 = "{a:u1;b:*a{c:p1;d:p1;e:p1;};k:X;}";
    private static final String BYTES_OF_160 = "35 e0*53";

    public static void main(String[] args) {
        bytesThatAreNotThere();
        numbersHighestOrLowestFirst();
        floatsAsASignedInt();
        bitsFromWhereTheyEnded();
        bitsThatAreNotThere();
        endAndWrongOfBits();
        restOfTheByte();
        whereTheRestIsLookedAt();
        words20And21();
        wordsNoByte0();
        restHowManyAreLeft();
        countedAsOftenAsItSays();
        sizedAsLongAsFewer();
        belowZero();
        choiceNone();
        oneMoreThan160();
        bytesAreLeft();
        spotOfTheLatestUnit();
        nameOfTheInnermostField();
        valuesStay();
        Script.finish("ReadingEdgesTest");
    }

    private static void bytesThatAreNotThere() {
        for (String[] unit : FIXED) {
            int width = Integer.parseInt(unit[1]);
            for (int there = 0; there < width; there++) {
                Script.run("END: " + there + " of " + width + " bytes",
                        "format " + unit[0], "bytes 00*" + there, "read END 0 -1", "format {c:u2;j:" + unit[0] + ";}",
                        "bytes 00 00 00*" + there, "read END 2 9");
            }
            Script.run("all are there",
                    "format " + unit[0], "bytes 00*" + width, "reads 0", "format {c:u2;j:" + unit[0] + ";}",
                    "bytes 00 00 00*" + width, "reads 0 0");
            Script.run("one more is left",
                    "format " + unit[0], "bytes 00*" + (width + 1), "read LEFT " + width + " -1",
                    "format {c:u2;j:" + unit[0] + ";}", "bytes 00 00 00*" + (width + 1),
                    "read LEFT " + (width + 2) + " -1");
        }
        // What is not there is END, whatever the bytes that are.
        Script.run("END before WRONG", """
                format u2<5
                bytes ff
                read END 0 -1
                format {a:u1<5;b:u2<5;}
                bytes 04 ff
                read END 1 1
                bytes 05 ff
                read WRONG 0 0
                """);
    }

    private static void numbersHighestOrLowestFirst() {
        Script.run("the first the highest (v: the lowest)", """
                format u2
                bytes 01 02
                reads 258
                format v2
                bytes 01 02
                reads 513
                format s2
                bytes 01 02
                reads 258
                format u3
                bytes 01 02 03
                reads 66051
                format v3
                bytes 01 02 03
                reads 197121
                format u4
                bytes 81 02 03 04
                reads 2164392708
                format v4
                bytes 01 02 03 84
                reads 2214789633
                format u1
                bytes 80
                reads 128
                format v1
                bytes ff
                reads 255
                """);
        Script.run("s with sign", """
                format s1
                bytes 7f
                reads 127
                bytes 80
                reads -128
                bytes ff
                reads -1
                format s2
                bytes 7f ff
                reads 32767
                bytes 80 00
                reads -32768
                bytes 00 80
                reads 128
                format s3
                bytes 7f ff ff
                reads 8388607
                bytes 80 00 00
                reads -8388608
                bytes ff ff ff
                reads -1
                format s4
                bytes 7f ff ff ff
                reads 2147483647
                bytes 80 00 00 00
                reads -2147483648
                bytes ff ff ff ff
                reads -1
                """);
    }

    private static void floatsAsASignedInt() {
        Script.run("as a signed int's, a long's VALUE", """
                format f
                bytes 7f ff ff ff
                reads 2147483647
                bytes 80 00 00 00
                reads -2147483648
                bytes ff ff ff fe
                reads -2
                bytes 01 02 03 04
                reads 16909060
                format d
                bytes 7f ff ff ff ff ff ff ff
                reads 0x7fffffffffffffff
                bytes 80 00 00 00 00 00 00 00
                reads -0x8000000000000000
                bytes 00 00 00 00 ff ff ff ff
                reads 4294967295
                bytes 3f f0 00 00 00 00 00 00
                reads 0x3ff0000000000000
                real(0) = 1.0
                """);
    }

    private static void bitsFromWhereTheyEnded() {
        for (int first = 1; first <= 7; first++) {
            for (int second = 1; second <= 7; second++) {
                int together = first + second <= 8 ? 1 : 2;
                int firstOnly = (1 << first) - 1 << 16 - first;
                int secondOnly = (1 << second) - 1 << 16 - first - second;
                Script.run("BITS from where the BITS before them ended: " + first + " and " + second,
                        "format {a:p" + first + ";b:p" + second + ";}", "bytes " + hex(firstOnly, together),
                        "reads " + ((1 << first) - 1) + " 0", "bytes " + hex(secondOnly, together),
                        "reads 0 " + ((1 << second) - 1), "format {a:p" + first + ";b:{};c:p" + second + ";}",
                        "bytes " + hex(firstOnly, 1) + " " + hex((1 << second) - 1 << 16 - second, 1),
                        "reads " + ((1 << first) - 1) + " " + ((1 << second) - 1));
            }
        }
        Script.run("else from the next byte", """
                format {a:p4;}
                bytes f0
                reads 15
                format {a:p4;b:u1;c:p4;}
                bytes 10 20 30
                reads 1 32 3
                format {a:p4;b:z;c:p4;}
                bytes 10 00 30
                reads 1 0 3
                format {a:p4;b:{c:p4;};d:p4;}
                bytes 10 20 30
                reads 1 2 3
                format {a:p4<1;b:*au1;c:p4;}
                bytes 00 30
                reads 0 3
                format {a:p4<1;b:/au1;c:p4;}
                bytes 00 30
                reads 0 3
                format {a:p4;b:?a{1:{};};c:p4;}
                bytes 10 30
                reads 1 3
                format {a:p2;b:*a{c:p4;};}
                bytes 80 10 20
                reads 2 1 2
                """);
    }

    private static String hex(int bits, int bytes) {
        return bytes == 1 ? String.format("%02x", bits >> 8) : String.format("%02x %02x", bits >> 8, bits & 255);
    }

    private static void bitsThatAreNotThere() {
        Script.run("END comes where their bits are read", """
                format {a:p7;b:p1;c:p1;d:p7;e:p2;}
                bytes
                read END 0 0
                bytes ff
                read END 1 2
                bytes ff ff
                read END 2 4
                bytes ff ff c0
                reads 127 1 1 127 3
                format {a:p7;b:p2;c:p7;}
                bytes
                read END 0 0
                bytes ff
                read END 0 1
                bytes ff ff
                reads 127 3 127
                format {a:p4;b:p5;}
                bytes f0
                read END 0 1
                bytes f0 00
                reads 15 0
                format {c:u1;d:p4;}
                bytes 00
                read END 1 3
                """);
    }

    private static void endAndWrongOfBits() {
        Script.run("WRONG comes where their bits are read", """
                format {a:p3<3;b:p3;c:p2<2;d:p1<1;}
                bytes 60
                read WRONG 0 0
                bytes 40
                read END 1 3
                bytes 42
                read WRONG 0 2
                bytes 41
                read END 1 3
                bytes 41 80
                read WRONG 1 3
                bytes 41 00
                reads 2 0 1 0
                bytes 41 40
                read WRONG 1 3
                format {a:p7;b:p2<2;}
                bytes 01
                read END 0 1
                bytes 01 00
                read WRONG 0 1
                bytes 00 80
                reads 0 1
                """);
    }

    private static void restOfTheByte() {
        for (int n = 1; n <= 23; n++) {
            int bytes = (n + 7) / 8;
            int last = n % 7 == 0 ? n - 7 : n - n % 7;
            String text = "{" + "a:p7;".repeat(last / 7) + "l:p" + (n - last) + ";}";
            for (int bit = 0; bit < 8 * bytes; bit++) {
                StringBuilder message = new StringBuilder();
                for (int i = 0; i < bytes; i++) {
                    message.append(i == bit / 8 ? String.format("%02x ", 128 >> bit % 8) : "00 ");
                }
                // A rest is looked at before it shows that bytes are left.
                boolean isRest = bit >= n;
                String wrong = "read WRONG " + last / 8 + " 11";
                Script.run("behind " + n + " bits the rest of the byte must be 0", "format " + text,
                        "bytes " + message, isRest ? wrong : "read() = " + (last / 7 + 1),
                        "bytes " + message + "01", isRest ? wrong : "read LEFT " + bytes + " -1");
            }
        }
    }

    private static void whereTheRestIsLookedAt() {
        String[] units = {"u1", "v2", "s3", "f", "d", "z", "u1<1", "{c:u1;}", "{c:{};d:u1;}", "{c:p3;}", "*au1", "/au1",
            "?a{1:u1;}", "*a{c:p3;}", "/a{c:p3;}", "?a{1:{c:p3;};}"};
        for (String unit : units) {
            int name = unit.contains("d:") ? 3 : unit.contains("c:") ? 2 : 1;
            Script.run("a byte's rest is looked at where the next unit would begin",
                    "format {a:p3;b:" + unit + ";}", "bytes 20", "read END 1 " + name, "bytes 21", "read WRONG 0 0",
                    "bytes 30", "read WRONG 0 0", "bytes 21 ff*9", "read WRONG 0 0");
        }
        Script.run("REST is a unit too", """
                format {a:p3;b:r;}
                bytes 20
                reads 1 0
                bytes 21
                read WRONG 0 0
                bytes 20 07
                reads 1 1 7
                bytes 30 07
                read WRONG 0 0
                """);
        Script.run("or the STRUCTURE ends", """
                format {a:{b:p3;};c:u1;}
                bytes 20
                read END 1 2
                bytes 21
                read WRONG 0 1
                format {a:{b:{c:p3;};};}
                bytes 20
                reads 1
                bytes 21
                read WRONG 0 2
                format {a:u1;b:*a{c:p3;};}
                bytes 02 20 20
                reads 2 1 1
                bytes 02 21 20
                read WRONG 1 2
                bytes 02 20 21
                read WRONG 2 2
                bytes 02 20
                read END 2 2
                bytes 02 21
                read WRONG 1 2
                """);
        Script.run("with no more unit in between", """
                format {a:p3;b:{};c:{d:{};};}
                bytes 20
                reads 1
                bytes 21
                read WRONG 0 0
                format {a:p3;b:*au1;}
                bytes 00
                reads 0
                bytes 01
                read WRONG 0 0
                format {a:p3;b:?a{0:{};};c:p3;}
                bytes 01 20
                read WRONG 0 0
                bytes 00 20
                reads 0 1
                bytes 00 21
                read WRONG 1 2
                bytes 20
                read WRONG 0 0
                """);
    }

    private static void words20And21() {
        for (int many : new int[] {0, 1, 2, 18, 19, 20}) {
            Script.run("WORDS: " + many + " bytes before the next byte 0",
                    "format z", "bytes 41*" + many + " 00", "reads " + many + " 65*" + many,
                    "bytes 41*" + many + " 00 07", "read LEFT " + (many + 1) + " -1", "format {c:u1;d:z;e:u1;}",
                    "bytes 00 ff*" + many + " 00 09", "reads 0 " + many + " 255*" + many + " 9");
        }
        for (int many : new int[] {21, 22, 40, 118}) {
            Script.run("more than 20 of them: WRONG: " + many,
                    "format z", "bytes 41*" + many + " 00", "read WRONG 0 -1", "format {c:u1;d:z;e:u1;}",
                    "bytes 00 41*" + many + " 00", "read WRONG 1 3");
        }
        Script.run("up to the next 0 only", """
                format {a:z;b:z;c:z;}
                bytes 00 41 00 00
                reads 0 1 65 0
                bytes 41*20 00 42*20 00 43*20 00
                reads 20 65*20 20 66*20 20 67*20
                bytes 41*20 00 42*21 00 00
                read WRONG 21 1
                bytes 41*20 00 42*20 00 43*21
                read WRONG 42 2
                """);
    }

    private static void wordsNoByte0() {
        for (int left : new int[] {0, 1, 2, 19, 20}) {
            Script.run("END: no byte 0 comes, and at most 20 bytes are left: " + left,
                    "format z", "bytes 41*" + left, "read END 0 -1", "format {c:u1;d:z;}", "bytes 00 41*" + left,
                    "read END 1 3");
        }
        for (int left : new int[] {21, 22, 119}) {
            Script.run("no byte 0 comes, and more are left: " + left,
                    "format z", "bytes 41*" + left, "read WRONG 0 -1", "format {c:u1;d:z;}", "bytes 00 41*" + left,
                    "read WRONG 1 3");
        }
    }

    private static void restHowManyAreLeft() {
        for (int many : new int[] {0, 1, 2, 118, 119}) {
            Script.run("REST: how many bytes are left, then each: " + many,
                    "format r", "bytes fe*" + many, "reads " + many + " 254*" + many, "format {c:u1;l:r;}",
                    "bytes 09 00*" + many, "reads 9 " + many + " 0*" + many);
        }
        Script.run("REST: 120 bytes are left",
                "format r", "bytes 00*119 ff", "reads 120 0*119 255");
    }

    private static void countedAsOftenAsItSays() {
        for (int many : new int[] {0, 1, 2, 5}) {
            Script.run("COUNTED: the TYPE as often as the FIELD's VALUE says: " + many,
                    "format {a:u1;b:*au2;}", "bytes 0" + many + " 00*" + 2 * many, "reads " + many + " 0*" + many,
                    "bytes 0" + many + " 00*" + (2 * many + 1), "read LEFT " + (1 + 2 * many) + " -1");
        }
        for (int many : new int[] {1, 2, 5}) {
            Script.run("not as often as the FIELD's VALUE says: " + many,
                    "format {a:u1;b:*au2;}", "bytes 0" + many + " 00*" + (2 * many - 1),
                    "read END " + (2 * many - 1) + " 1");
        }
        Script.run("as often as the greatest says, with types of no bytes", """
                format {a:u1;b:*a?a{255:{};0:u1;};}
                bytes ff
                reads 255
                bytes ff 00
                read LEFT 1 -1
                bytes 00
                reads 0
                bytes fe
                read WRONG 0 0
                format {a:p1;b:u2=997;c:*b?a{0:{};1:u1;};}
                bytes 00 03 e5
                reads 0 997
                bytes 00 03 e5 00
                read LEFT 3 -1
                bytes 80 03 e5 07*117
                read END 120 2
                """);
    }

    private static void sizedAsLongAsFewer() {
        String[][] units = {{"u1", "1"}, {"v2", "2"}, {"u3", "3"}, {"f", "4"}, {"d", "8"}};
        for (String[] unit : units) {
            int width = Integer.parseInt(unit[1]);
            for (int wanted = 0; wanted <= 17; wanted++) {
                int rounds = (wanted + width - 1) / width;
                String size = Integer.toHexString(wanted);
                String spotAndName = (1 + (rounds - 1) * width) + " 1";
                String title = "SIZED: as long as fewer bytes than " + wanted + " were read, " + width + " at once";
                Script.run(title, "format {a:u1;b:/a" + unit[0] + ";c:u1;}", "bytes " + size + " 00*" + rounds * width + " 07",
                        wanted % width == 0 ? "reads " + wanted + " 0*" + rounds + " 7" : "read WRONG " + spotAndName);
                if (rounds > 0) {
                    Script.run(title, "format {a:u1;b:/a" + unit[0] + ";c:u1;}",
                            "bytes " + size + " 00*" + (rounds * width - 1), "read END " + spotAndName);
                }
            }
        }
        Script.run("more were in the end: WRONG, where the latest unit began", """
                format {a:u1;b:/az;c:u1;}
                bytes 03 41 42 00 09
                reads 3 2 65 66 9
                bytes 02 41 42 00 09
                read WRONG 1 1
                bytes 04 41 42 00 00 09
                reads 4 2 65 66 0 9
                bytes 04 41 42 00 43 00 09
                read WRONG 4 1
                bytes 15 41*20 00 09
                reads 21 20 65*20 9
                format {a:u1;b:/a{c:u1;d:u1;};}
                bytes 01 05 06
                read WRONG 2 3
                bytes 01 05
                read END 2 3
                bytes 01
                read END 1 2
                bytes 02 05 06
                reads 2 5 6
                bytes 02 05 06 07
                read LEFT 3 -1
                """);
        Script.run("bytes are counted from where it begins, whole bytes of bits", """
                format {a:p3;b:/a{c:p3;};d:p3;}
                bytes 40 20 40 60
                reads 2 1 2 3
                bytes 20 20 60
                reads 1 1 3
                bytes 00 60
                reads 0 3
                format {c:u2;a:u1;b:/a{c:p7;d:p3;};}
                bytes 00 00 04 02 00 02 00
                reads 0 4 1 0 1 0
                bytes 00 00 03 02 00 02 00
                read WRONG 5 3
                bytes 00 00 02 02 00
                reads 0 2 1 0
                """);
        Script.run("one in another", """
                format {a:u1;b:u1>0;c:/a/bu1;}
                bytes 04 02 01 02 03 04
                reads 4 2 1 2 3 4
                bytes 03 02 01 02 03 04
                read WRONG 5 2
                bytes 02 02 01 02
                reads 2 2 1 2
                bytes 01 02 01 02
                read WRONG 3 2
                bytes 00 02
                reads 0 2
                """);
    }

    private static void belowZero() {
        for (String array : new String[] {"*au1", "/au1", "*a{d:u1;}", "/a?k{0:u1;}"}) {
            String[] kinds = {"s1", "s2<9", "s3<9", "s4<9"};
            for (int n = 1; n <= 4; n++) {
                String text = "{a:" + kinds[n - 1] + ";k:u1;b:" + array + ";}";
                Script.run("That VALUE is below 0: WRONG: " + text,
                        "format " + text, "bytes ff*" + n + " 00", "read WRONG " + n + " 10", "bytes 80 00*" + n,
                        "read WRONG " + n + " 10", "bytes 00*" + n + " 00", "reads 0 0",
                        "bytes 00*" + (n - 1) + " 01 00 07", "reads 1 0 7", "bytes ff*" + n + " 00 07*9",
                        "read WRONG " + n + " 10");
            }
        }
        Script.run("a choice has no case for it", """
                format {a:s1;b:?a{1:u1;0:u1;127:u1;};}
                bytes ff 00
                read WRONG 0 0
                bytes 80 00
                read WRONG 0 0
                bytes 00 09
                reads 0 9
                bytes 7f 09
                reads 127 9
                """);
    }

    private static void choiceNone() {
        String text = "{a:s2;k:u1;b:?a{0:{};5:u1;6:v2;999:z;};}";
        for (int v : new int[] {-32768, -999, -5, -1, 1, 4, 7, 998, 1000, 1005, 32767}) {
            Script.run("CHOICE: none for " + v,
                    "format " + text, "bytes " + hex(v & 0xffff, 2) + " 00 01 00", "read WRONG 2 10");
        }
        Script.run("CHOICE: the CASE whose figure is the VALUE", "format " + text + """

                bytes 00 00 00
                reads 0 0
                bytes 00 05 00 09
                reads 5 0 9
                bytes 00 06 00 09 00
                reads 6 0 9
                bytes 03 e7 00 09 00
                reads 999 0 1 9
                bytes 00 06 00 09
                read END 3 1
                bytes 03 e7 00
                read END 3 1
                bytes 00 00 00 00
                read LEFT 3 -1
                """);
        Script.run("not by a value's lowest bits", """
                format {a:u4;b:?a{0:u1;1:u2;};}
                bytes 00 00 00 01 00 09
                reads 1 9
                bytes 01 00 00 00 00
                read WRONG 0 0
                bytes 00 00 01 00 00
                read WRONG 0 0
                bytes ff ff ff ff 00
                read WRONG 0 0
                """);
    }

    private static void oneMoreThan160() {
        String[][] units = {{"u1", "07", "7"}, {"v2", "07 00", "7"}, {"s3", "00 00 07", "7"},
            {"u4", "00 00 00 07", "7"}, {"f", "00 00 00 07", "7"}, {"d", "00 00 00 00 00 00 00 07", "7"},
            {"p3", "e0", "7"}, {"z", "00", "0"}, {"{l:u1;}", "07", "7"}};
        for (String[] unit : units) {
            int name = unit[0].contains("l:") ? 11 : 10;
            String bytes = unit[1];
            Script.run("VALUES: at most 160: the last is " + unit[0],
                    "format " + WITH_159.replace("X", unit[0]), "bytes " + BYTES_OF_159 + " " + bytes,
                    "reads 79 1*158 " + unit[2]);
            Script.run("One more VALUE than 160: WRONG: " + unit[0],
                    "values 5", "format " + WITH_160.replace("X", unit[0]), "bytes " + BYTES_OF_160 + " " + bytes,
                    "read WRONG 54 " + name, "bytes " + BYTES_OF_160, "read END 54 " + name, "holds 5");
        }
        Script.run("160 and no more",
                "format " + WITH_160.replace("X", "{}"), "bytes " + BYTES_OF_160, "reads 53 1*159");
        Script.run("WORDS: how many they are, and each, is a VALUE",
                "format " + WITH_159.replace("X", "z"), "bytes " + BYTES_OF_159 + " 41 00", "read WRONG 80 10",
                "bytes " + BYTES_OF_159 + " 41*20 00", "read WRONG 80 10", "bytes " + BYTES_OF_159 + " 41",
                "read END 80 10");
        Script.run("REST: how many they are, and each, is a VALUE",
                "format " + WITH_159.replace("X", "r"), "bytes " + BYTES_OF_159 + " 41", "read WRONG 80 10",
                "bytes " + BYTES_OF_159 + " 41*40", "read WRONG 80 10", "bytes " + BYTES_OF_159, "reads 79 1*158 0");
        Script.run("REST behind 160",
                "format " + WITH_160.replace("X", "r"), "bytes " + BYTES_OF_160, "read WRONG 54 10",
                "bytes " + BYTES_OF_160 + " 01", "read WRONG 54 10");
        Script.run("in the midst of bits", """
                format {a:u1;b:*a{c:p1;d:p1;e:p1;f:p1;};}
                bytes 28 f0*40
                read WRONG 40 5
                """);
        Script.run("and before", """
                format {a:u1;b:*a{c:p1;d:p1;e:p1;f:p1;};}
                bytes 27 f0*39
                reads 39 1*156
                """);
    }

    private static void bytesAreLeft() {
        for (int left : new int[] {1, 2, 118}) {
            Script.run("Bytes are left: SPOT is the first of these, NAME -1: " + left,
                    "values 5", "format {c:u2;}", "bytes 00*2 07*" + left, "read LEFT 2 -1", "holds 5", "cut(2) = 2",
                    "reads 0", "count(3) = 2", "count(4) = -1");
        }
        Script.run("none is left",
                "format {c:u2;}", "bytes 00 00", "reads 0", "count(3) = -1", "count(4) = -1");
        Script.run("all are left", """
                format {}
                bytes 07
                read LEFT 0 -1
                bytes 07*120
                read LEFT 0 -1
                cut(0) = 0
                reads
                """);
        Script.run("bits and their rest are one byte", """
                format {c:p3;}
                bytes e0 00
                read LEFT 1 -1
                bytes e0
                reads 7
                """);
        Script.run("behind 119 bytes", """
                format {a:u1=118;b:*au1;}
                bytes 76 07*119
                read LEFT 119 -1
                """);
    }

    private static void spotOfTheLatestUnit() {
        for (int before : new int[] {0, 1, 2, 60, 117, 118, 119}) {
            Script.run("SPOT is the byte in which the latest unit begins",
                    "format {a:u1;b:*au1;k:u1;}", "bytes " + Integer.toHexString(before) + " 00*" + before,
                    "read END " + (before + 1) + " 10");
        }
        for (int before : new int[] {0, 1, 2, 60, 117, 118}) {
            Script.run("SPOT is the byte in which the latest unit begins",
                    "format {a:u1;b:*au1;k:u1<7;}", "bytes " + Integer.toHexString(before) + " 00*" + before + " 07",
                    "read WRONG " + (before + 1) + " 10");
        }
        Script.run("of bits the byte of the first of them", """
                format {a:p7;b:p1<1;c:p1<1;d:p7<1;e:p1<1;}
                bytes 01
                read WRONG 0 1
                bytes 00 80
                read WRONG 1 2
                bytes 00 01
                read WRONG 1 3
                bytes 00 00 80
                read WRONG 2 4
                format {a:p6;b:p4<1;}
                bytes 00 40
                read WRONG 0 1
                bytes 00
                read END 0 1
                """);
        Script.run("a new one begins in each round", """
                format {a:u1;b:*a{c:u1;d:u2<7;};}
                bytes 03 00 00 00 00 00 00 00 00 07
                read WRONG 8 3
                bytes 03 00 00 00 00 00 00
                read END 7 2
                """);
    }

    private static void nameOfTheInnermostField() {
        for (char name = 'a'; name <= 'l'; name++) {
            int number = name - 'a';
            Script.run("NAME: 0 a .. 11 l: " + name,
                    "format {" + name + ":u1<7;}", "read END 0 " + number, "bytes 07", "read WRONG 0 " + number,
                    "format {" + name + ":p3<7;}", "bytes", "read END 0 " + number, "bytes e0",
                    "read WRONG 0 " + number, "format {k:{" + name + ":z;};}", "bytes", "read END 0 " + number,
                    "format {" + name + ":{};k:f;}", "read END 0 10");
        }
        Script.run("-1 without", """
                format u1<7
                read END 0 -1
                bytes 07
                read WRONG 0 -1
                format z
                bytes 41
                read END 0 -1
                bytes 41*21
                read WRONG 0 -1
                format f
                bytes 41
                read END 0 -1
                """);
        Script.run("the innermost FIELD around it", """
                format {a:u1;b:{c:{d:*au1;};};}
                bytes 01
                read END 1 3
                format {a:u1<9;b:*a/a?a{1:u1;};}
                bytes 01
                read END 1 1
                format {a:u1;b:?a{1:{e:?a{1:u1;};};2:f;};}
                bytes 01
                read END 1 4
                bytes 02
                read END 1 1
                format {a:u1;b:{c:u1;};d:*au1;}
                bytes 01 02
                read END 2 3
                """);
    }

    private static void valuesStay() {
        Script.run("END and WRONG and what is left: the VALUES stay", """
                format {a:u1<9;b:u1;}
                values 5 6 7
                bytes 01
                read END 1 1
                holds 5 6 7
                bytes 09
                read WRONG 0 0
                holds 5 6 7
                bytes 01 02 03
                read LEFT 2 -1
                holds 5 6 7
                message 01 02 03
                cut(2) = 2
                reads 1 2
                count(3) = 2
                count(4) = -1
                message 01 02
                """);
        Script.run("nothing is compiled", """
                values 5
                bytes 01
                read() = throws.UnsupportedOperationException
                count(3) = -1
                count(4) = -1
                format u1
                reads 1
                text u
                compile() = throws.UnsupportedOperationException
                read() = throws.UnsupportedOperationException
                holds 1
                """);
    }
}
