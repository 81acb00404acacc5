/** Makes a call that is told by a text, such as "put(5, 2)", and tells what came of it. */
final class Calls {
    private Calls() {
    }

    /** The answer, or "throws." and the exception's name. */
    static String answer(FormatForge forge, String call) {
        try {
            return made(forge, call);
        } catch (RuntimeException e) {
            return "throws." + e.getClass().getSimpleName();
        }
    }

    private static String made(FormatForge forge, String call) {
        String name = call.substring(0, call.indexOf('('));
        String inside = call.substring(call.indexOf('(') + 1, call.indexOf(')'));
        String[] words = inside.isEmpty() ? new String[0] : inside.split(", ");
        switch (name) {
            case "type":
                return "" + forge.type(Long.decode(words[0]));
            case "clear":
                return "" + forge.clear();
            case "fault":
                return "" + forge.fault();
            case "compile":
                return "" + forge.compile();
            case "size":
                return "" + forge.size(Boolean.parseBoolean(words[0]));
            case "put":
                return "" + forge.put(Long.decode(words[0]), Integer.decode(words[1]));
            case "cut":
                return "" + forge.cut(Integer.decode(words[0]));
            case "read":
                return "" + forge.read();
            case "write":
                return "" + forge.write();
            case "value":
                return "" + forge.value(Integer.decode(words[0]));
            case "real":
                return "" + forge.real(Integer.decode(words[0]));
            case "set":
                return "" + forge.set(Integer.decode(words[0]), Long.decode(words[1]));
            case "drop":
                return "" + forge.drop(Integer.decode(words[0]), Integer.decode(words[1]));
            case "byteAt":
                return "" + forge.byteAt(Integer.decode(words[0]));
            case "count":
                return "" + forge.count(Integer.decode(words[0]));
            default:
                throw new AssertionError("no such call: " + call);
        }
    }
}
