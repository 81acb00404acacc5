/** What may be due of a text: where it goes wrong, whether it compiles, and which sizes it has. */
final class Texts {
    private Texts() {
    }

    static void areWhole(String... texts) {
        for (String text : texts) {
            faultIs(text, -2);
        }
    }

    static void stopAt(int place, String... texts) {
        for (String text : texts) {
            faultIs(text, place);
        }
    }

    /** All signs can stand, but more must come. */
    static void stopAtTheirEnd(String... texts) {
        for (String text : texts) {
            faultIs(text, text.length());
        }
    }

    static void faultIs(String text, int place) {
        Script.run("fault of " + text, "text " + text + "\nfault() = " + place);
    }

    static void compile(int most, String... texts) {
        for (String text : texts) {
            compileAnswers(text, "" + most, 1);
        }
    }

    static void areUnsound(String... texts) {
        for (String text : texts) {
            faultIs(text, -2);
            compileAnswers(text, "throws.IllegalStateException", 0);
        }
    }

    static void areNoTypes(String... texts) {
        for (String text : texts) {
            compileAnswers(text, "throws.UnsupportedOperationException", 0);
        }
    }

    private static void compileAnswers(String text, String answer, int compiled) {
        // Something is compiled before, so that it shows when nothing is then.
        Script.run("compile of " + text, "format {l:u3;}\ntext " + text + "\ncompile() = " + answer
                + "\ncount(5) = " + compiled);
    }

    static void haveSizes(int least, int most, String... texts) {
        for (String text : texts) {
            Script.run("sizes of " + text, "text " + text + "\nfault() = -2\ncompile() = " + most
                    + "\nsize(false) = " + least + "\nsize(true) = " + most);
        }
    }
}
