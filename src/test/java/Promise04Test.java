/** fault, and with it the rules of TEXT. */
public final class Promise04Test {
    public static void main(String[] args) {
        Texts.areWhole("u1", "u4", "v1", "v4", "s1", "s4", "p1", "p7", "f", "d", "z", "r", "{}");
        Texts.areWhole("u1<0", "u1<9", "v2>10", "s3=999", "p7<000", "p1=12");
        Texts.areWhole("{a:u1;}", "{l:u1;}", "{a:u1;a:u1;}", "{a:{};}", "{a:{b:d;};c:f;}");
        Texts.areWhole("*au1", "*lz", "/au1", "/lr", "*a/b*c/dp3", "/a{}", "*a{b:p1;}");
        Texts.areWhole("?a{0:u1;}", "?l{999:z;000:d;}", "?a{1:u1;1:u1;}", "?a{1:?b{2:f;};}");
        Texts.areWhole("{a:{b:{c:{d:u1;};};};}", "{a:{b:{c:{d:{};};};};}", "*a*b*c*d{}", "*a*b*c*du1<3");
        Texts.areWhole("?a{0:?b{0:?c{0:?d{0:r;};};};}", "?a{0:*b/c{d:p1;};}");

        Texts.stopAt(0, "x", "1", "}", ":", ";", "a", "<", "U1", "(", "t", "w", "P1", "F");
        Texts.stopAt(1, "u0", "u5", "u9", "u<", "v0", "v5", "s0", "s5", "ua", "p0", "p8", "p9", "p<", "v:");
        Texts.stopAt(1, "f1", "d1", "z1", "r1", "ff", "f<5", "d=1", "z>1", "r<1", "{{", "{m:u1;}", "{`:u1;}");
        Texts.stopAt(1, "{1", "{;}", "{u1}", "*m", "*1", "**a", "/m", "/`u1", "?m{", "?{", "?1", "{A");
        Texts.stopAt(2, "u11", "u1u", "u1:", "u1;", "p7p", "s2;", "{}{", "{}}", "{}u1", "{a}", "{a;", "{aa");
        Texts.stopAt(2, "*aa", "*a:", "*a}", "*a1", "/ab", "?aa", "?a:", "?a}", "?au1", "{a=");
        Texts.stopAt(3, "u1<<", "u1=>", "u1<a", "u1<-", "v2=u", "u1>;", "{a:}", "{a:;", "{a:a", "{a:1", "?a{}");
        Texts.stopAt(3, "?a{a:u1;}", "?a{:", "?a{{", "*au5", "*a*1", "*au9", "*ap8");
        Texts.stopAt(4, "u1<1<", "u1<1a", "s2<0>1", "{a:u}", "{a:u5;}", "{a:p8;}", "{a:fd;}", "?a{1;", "?a{1}", "?a{1u");
        Texts.stopAt(5, "?a{1:}", "?a{1:;", "{a:u1}", "{a:u1a", "{a:u1:", "?a{12;");
        Texts.stopAt(6, "u2=1000", "u1>123>", "?a{1234:u1;}", "{a:u1;;", "{a:u1;1", "{a:u1;u1", "{a:u1;m");
        Texts.stopAt(7, "{a:u1;}}", "{a:u1;b;", "?a{0:u1}", "?a{0:u1:", "?a{123:m", "{a:u1;}{");
        Texts.stopAt(8, "?a{0:u1;;", "?a{0:u1;a", "?a{0:u1;{", "{a:u1;b:");
        Texts.stopAt(9, "?a{0:u1;}}", "?a{0:u1;}u", "?a{0:u1;1}", "?a{0:u1;1;");

        Texts.stopAtTheirEnd("", "u", "v", "s", "p", "u1<", "p3>", "s2=", "{", "{a", "{a:", "{a:u", "{a:u1", "{a:u1<");
        Texts.stopAtTheirEnd("{a:u1<123", "{a:u1;", "{a:u1;b", "*", "*a", "*a*b", "/", "/a", "/au", "?", "?a", "?a{");
        Texts.stopAtTheirEnd("?a{1", "?a{12", "?a{123", "?a{1:", "?a{1:u1", "?a{1:u1;", "?a{1:u1;2", "{a:{}", "{a:{};");

        nothingStandsDeeperThanFive();
        longTextsAreToldToo();
        faultChangesNothing();
        Script.finish("Promise04Test");
    }

    private static void nothingStandsDeeperThanFive() {
        Texts.stopAt(13, "{a:{b:{c:{d:{e:u1;};};};};}", "{a:{b:{c:{d:{e");
        Texts.stopAt(12, "{a:{b:{c:{d:*au1;};};};}", "{a:{b:{c:{d:/a", "{a:{b:{c:{d:?");
        Texts.stopAt(8, "*a*b*c*d*eu1", "/a/b/c/d/", "*a/b*c/d?", "*a*b*c*d?e{0:u1;}");
        Texts.stopAt(9, "*a*b*c*d{a");
        Texts.stopAt(20, "?a{0:?b{0:?c{0:?d{0:*a");
        Texts.stopAt(13, "{a:?a{0:{b:*a*");
        Texts.stopAtTheirEnd("*a*b*c*d", "*a*b*c*d{", "{a:{b:{c:{d:", "{a:{b:{c:{d:{", "*a*b*c?d{0:{}");
        Texts.areWhole("{a:{b:{c:{d:{};};};};e:{f:{g:{h:{};};};};}", "*a*b*c?d{0:{};1:z;}");
    }

    private static void longTextsAreToldToo() {
        String sixteen = "a:u1;b:u2;c:u3;d:u4;e:v1;f:v2;g:v3;h:v4;i:s1;j:s2;k:s3;l:s4;a:p1;b:p2;c:p3;d:p4;";
        Texts.areWhole("{" + sixteen + "e:{};}", "{" + sixteen + "f:p1<1;}");
        Texts.stopAtTheirEnd("{" + sixteen + "e:*ap1<9;");
        Texts.stopAt(89, "{" + sixteen + "e:*ap1<9}");
    }

    private static void faultChangesNothing() {
        Script.run("fault changes nothing", """
                format {a:u1;b:*au2;}
                text {c:z;d:{e:p3;};
                fault() = 15
                count(0) = 15
                size(true) = 511
                bytes 01 02 03
                reads 1 515
                text z
                fault() = -2
                fault() = -2
                reads 1 515
                values 2 3 4
                writes 02 00 03 00 04
                """);
        Script.run("no sound text is asked for", """
                text {a:r;b:*cp3;d:u1<0;}
                fault() = -2
                """);
    }
}
