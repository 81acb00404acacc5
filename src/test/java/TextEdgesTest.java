/** The edges of TEXT: each test bears the words of the document that it is about. */
public final class TextEdgesTest {
    /** Of 90 signs. */
    private static final String FULL = "{" + "a:u1;".repeat(16) + "b:u1<50;}";

    public static void main(String[] args) {
        atMost90Signs();
        ofCodes33To126();
        zeroLeftOut();
        aDigit("u", 4);
        aDigit("v", 4);
        aDigit("s", 4);
        aDigit("p", 7);
        maybeLimited();
        oneToThreeDigits();
        nameAToL();
        anyNumberOfFields();
        oneOrMoreCases();
        atMost5Deep();
        firstSignThatCantStand();
        ofAnyLength();
        everySignAtEveryPlace();
        Script.finish("TextEdgesTest");
    }

    private static void atMost90Signs() {
        Script.check("signs of the full text", FULL.length(), 90);
        for (int more = 1; more <= 8; more++) {
            String last = FULL.substring(90 - more);
            Script.run("TEXT: at most 90 signs, the last " + more + " at once",
                    "text " + FULL.substring(0, 90 - more), "count(0) = " + (90 - more),
                    "type(" + Script.packed(last) + ") = 90", "fault() = -2", "compile() = 17");
        }
        for (int more = 2; more <= 8; more++) {
            String last = FULL.substring(91 - more);
            Script.run("too long by one of " + more,
                    "text " + FULL.substring(0, 91 - more),
                    "type(" + Script.packed(last + "}") + ") = throws.IllegalStateException",
                    "count(0) = " + (91 - more), "fault() = " + (91 - more), "type(" + Script.packed(last) + ") = 90",
                    "compile() = 17");
        }
        Script.run("a full text takes none", "text " + FULL + """

                count(0) = 90
                type(0x7d) = throws.IllegalStateException
                type(0x7d7d7d7d7d7d7d7d) = throws.IllegalStateException
                type(0) = 90
                fault() = -2
                compile() = 17
                clear() = 90
                count(0) = 0
                type(0x75) = 1
                """);
        Script.run("only what is put makes it longer", "text " + FULL.substring(0, 89) + """

                type(0x7d00000000000000) = 90
                type(0x0000007d00000000) = throws.IllegalStateException
                count(0) = 90
                """);
    }

    private static void ofCodes33To126() {
        for (int code = 0; code < 256; code++) {
            boolean good = code >= 33 && code <= 126;
            String answer = code == 0 ? "1" : good ? "2" : "throws.IllegalArgumentException";
            Script.run("codes 33 .. 126: " + code,
                    "text u", "type(" + code + ") = " + answer, "count(0) = " + (good ? 2 : 1));
        }
        for (int code : new int[] {1, 32, 33, 126, 127, 128, 255}) {
            for (int shift = 0; shift < 64; shift += 8) {
                long signs = 0x7575757575757575L & ~(255L << shift) | (long) code << shift;
                boolean good = code >= 33 && code <= 126;
                String refused = "throws.IllegalArgumentException";
                Script.run("code " + code + " above " + shift + " bits",
                        "text s", "type(" + signs + ") = " + (good ? "9" : refused), "count(0) = " + (good ? 9 : 1),
                        "type(" + ((long) code << shift) + ") = " + (good ? "10" : refused));
            }
        }
    }

    private static void zeroLeftOut() {
        for (int shift = 0; shift < 64; shift += 8) {
            String seven = "{b:s3;}";
            long signs = 0;
            int next = 0;
            for (int at = 56; at >= 0; at -= 8) {
                signs = signs << 8 | (at == shift ? 0 : seven.charAt(next++));
            }
            Script.run("0 left out above " + shift + " bits",
                    "type(" + signs + ") = 7", "fault() = -2", "compile() = 3");
        }
        Script.run("all 0: nothing is put",
                "type(0) = 0", "count(0) = 0", "fault() = 0", "text u1", "type(0) = 2", "fault() = -2");
    }

    private static void aDigit(String kind, int most) {
        for (char sign = '!'; sign <= '~'; sign++) {
            boolean good = sign >= '1' && sign <= '0' + most;
            Texts.faultIs(kind + sign, good ? -2 : 1);
            Texts.faultIs("{a:" + kind + sign + ";}", good ? -2 : 4);
        }
        Texts.stopAtTheirEnd(kind, "{a:" + kind);
    }

    private static void maybeLimited() {
        for (String kind : new String[] {"u1", "v4", "s2", "p7", "p1"}) {
            for (char sign = '!'; sign <= '~'; sign++) {
                boolean limits = "<>=".indexOf(sign) >= 0;
                Texts.faultIs(kind + sign + "5", limits ? -2 : 2);
                Texts.faultIs("{a:" + kind + sign + "5;}", limits ? -2 : sign == ';' ? 6 : 5);
            }
        }
        Texts.stopAt(1, "f<5", "d>5", "z=5", "r<5");
        Texts.stopAt(2, "{}<5", "{}=5");
        Texts.stopAt(4, "{a:f<5;}", "{a:d=5;}", "{a:z>5;}", "{a:r<5;}");
    }

    private static void oneToThreeDigits() {
        for (String limited : new String[] {"u1<", "v2>", "s3=", "p4<"}) {
            Texts.areWhole(limited + "0", limited + "9", limited + "00", limited + "99", limited + "000", limited + "999");
            Texts.stopAtTheirEnd(limited);
            Texts.stopAt(3, limited + "/", limited + ":", limited + "a", limited + ";");
            Texts.stopAt(4, limited + "1/", limited + "1:", limited + "1a");
            Texts.stopAt(6, limited + "0000", limited + "9999", limited + "123/", limited + "123:");
        }
        Texts.stopAt(9, "{a:u1<123", "{a:u1<1234;}");
        Texts.areWhole("?a{0:f;}", "?a{9:f;}", "?a{00:f;}", "?a{99:f;}", "?a{000:f;}", "?a{999:f;}");
        Texts.stopAt(3, "?a{:f;}", "?a{/:f;}");
        Texts.stopAt(4, "?a{1/:f;}");
        Texts.stopAt(6, "?a{0000:f;}", "?a{9999:f;}", "?a{123/:f;}");
        // As long as digits come, up to three: the fourth is no other figure.
        Texts.stopAt(10, "?a{0:f;1234:");
    }

    private static void nameAToL() {
        for (char sign = '!'; sign <= '~'; sign++) {
            boolean good = sign >= 'a' && sign <= 'l';
            Texts.faultIs("{" + sign + ":f;}", good ? -2 : sign == '}' ? 2 : 1);
            Texts.faultIs("{a:f;" + sign + ":f;}", good ? -2 : sign == '}' ? 6 : 5);
            Texts.faultIs("*" + sign + "f", good ? -2 : 1);
            Texts.faultIs("/" + sign + "f", good ? -2 : 1);
            Texts.faultIs("?" + sign + "{0:f;}", good ? -2 : 1);
        }
    }

    private static void anyNumberOfFields() {
        for (int many = 0; many <= 22; many++) {
            Texts.areWhole("{" + "a:f;".repeat(many) + "}");
            Texts.faultIs("{" + "a:f;".repeat(many), 1 + 4 * many);
        }
    }

    private static void oneOrMoreCases() {
        Texts.stopAt(3, "?a{}");
        Texts.stopAtTheirEnd("?a{");
        for (int many = 1; many <= 21; many++) {
            Texts.areWhole("?a{" + "0:f;".repeat(many) + "}");
            Texts.faultIs("?a{" + "0:f;".repeat(many), 3 + 4 * many);
        }
    }

    /** What stands before and behind a TYPE that is one deeper. */
    private static final String[][] AROUND = {{"{a:", ";}"}, {"*b", ""}, {"/c", ""}, {"?d{0:", ";}"}};

    private static void atMost5Deep() {
        for (int which = 0; which < 256; which++) {
            String before = "";
            String behind = "";
            for (int depth = 0; depth < 4; depth++) {
                String[] around = AROUND[which >> 2 * depth & 3];
                before = before + around[0];
                behind = around[1] + behind;
            }
            for (String fifth : new String[] {"u1", "p1<1", "s4=999", "f", "d", "z", "r", "{}"}) {
                Texts.areWhole(before + fifth + behind);
            }
            // At depth 5 a structure can stand, but no field in it, since its type would be at depth 6.
            Texts.stopAt(before.length() + 1, before + "{a:u1;}" + behind);
            Texts.stopAtTheirEnd(before, before + "{");
            for (String fifth : new String[] {"*a", "/a", "?a{0:"}) {
                Texts.stopAt(before.length(), before + fifth + "u1" + (fifth.length() > 2 ? ";}" : "") + behind);
            }
        }
        Texts.areWhole("{a:{b:{c:{d:{};e:{};};};};f:{b:{c:{d:{};};};};}");
        Texts.stopAt(23, "{a:{b:{c:{d:{};e:{};f:{a");
    }

    private static void firstSignThatCantStand() {
        Texts.stopAt(0, "U1", "x", "xx", "}{", "1{", ";;;;");
        Texts.stopAt(1, "uu1", "u5u5", "{)x", "fx", "dd", "zz", "rr");
        Texts.stopAt(6, "{a:u1;;b:xx;}", "{a:u1;x:u9;}");
        Texts.stopAt(10, "{a:u1;b:u2x}", "{a:u1;b:u2}}");
        Texts.stopAt(12, "{a:u1;b:u2;}}", "{a:u1;b:u2;}u1");
        Texts.stopAtTheirEnd("", "{", "{a:u1;b:u2;");
        Texts.areWhole("{a:u1;b:u2;}");
    }

    /** What can stand only if more than 90 signs come can stand. */
    private static void ofAnyLength() {
        String fields = "a:u1;".repeat(17);
        Texts.stopAtTheirEnd("{" + fields + "b:u1", "{" + fields + "b:*c", "{" + fields + "b:{}");
        Texts.faultIs("{" + fields + "b:?c", 90);
        Texts.faultIs("{" + fields + "b:?m", 89);
        Texts.faultIs("{" + fields + "b:u5", 89);
        Texts.faultIs("{" + fields + "b:f;", 90);
        Texts.areWhole("{" + fields + "}");
    }

    /** Behind each beginning of these texts each sign is tried, against the second writing of the rules. */
    private static void everySignAtEveryPlace() {
        String[] texts = {"u1<12", "v4>999", "s2=0", "{a:p3;l:p7<1;}", "{a:f;b:d;c:z;d:r;}", "*au1<3", "/l{a:u1;}",
            "?a{0:u1;12:z;999:{};}", "{a:u1;b:*a{c:?a{1:/cu1;};};}", "*a/b*c?d{1:u1;}", "{a:{b:{c:{d:{};};};};}",
            "?a{1:?b{2:?c{3:?d{4:p1;};};};}"};
        for (String text : texts) {
            for (int length = 0; length <= text.length(); length++) {
                for (char sign = '!'; sign <= '~'; sign++) {
                    sameFault(text.substring(0, length) + sign);
                }
            }
        }
    }

    private static void sameFault(String text) {
        FormatForge forge = new FormatForge();
        Model model = new Model();
        for (int from = 0; from < text.length(); from += 8) {
            long signs = Script.packed(text.substring(from, Math.min(from + 8, text.length())));
            forge.type(signs);
            model.type(signs);
        }
        Script.check("fault of " + text, forge.fault(), model.fault());
    }
}
