import java.util.ArrayDeque;
import java.util.ArrayList;
import java.util.Deque;
import java.util.HashSet;
import java.util.List;
import java.util.NoSuchElementException;
import java.util.Set;

/**
 * The document written down a second time, with the whole of the Java library and in other ways than
 * in FormatForge wherever there is another way: faults by a stack of what must still come, sizes by
 * recursion, messages as texts of 0 and 1, and END and WRONG as exceptions.
 */
final class Model {
    private String text = "";
    private String message = "";
    private List<Long> values = new ArrayList<>();
    private Type compiled = null;
    private int spot = -1;
    private int name = -1;

    int type(long signs) {
        StringBuilder more = new StringBuilder();
        for (byte b : java.nio.ByteBuffer.allocate(8).putLong(signs).array()) {
            if (b < 0 || b > 0 && b < 33 || b == 127) {
                throw new IllegalArgumentException();
            }
            if (b != 0) {
                more.append((char) b);
            }
        }
        if (text.length() + more.length() > 90) {
            throw new IllegalStateException();
        }
        text += more;
        return text.length();
    }

    int clear() {
        int was = text.length();
        text = "";
        return was;
    }

    // ---- TEXT

    /**
     * On the stack stands what must come, as: a sign itself; N a name; T1 .. T5 a TYPE at this depth; F1 ..
     * F5 FIELDS and C1 .. C5 further CASES in a TYPE at this depth; K4, K7 a digit up to this; L maybe LIMITED;
     * D a digit and maybe two; 2, 1 so many digits maybe.
     */
    int fault() {
        Deque<String> due = new ArrayDeque<>();
        due.push("T1");
        for (int place = 0; place < text.length(); place++) {
            if (!accepts(due, text.charAt(place))) {
                return place;
            }
        }
        while (!due.isEmpty() && (due.peek().equals("L") || due.peek().matches("[12]"))) {
            due.pop();
        }
        return due.isEmpty() ? -2 : text.length();
    }

    private static boolean accepts(Deque<String> due, char sign) {
        while (!due.isEmpty()) {
            String top = due.pop();
            boolean digit = sign >= '0' && sign <= '9';
            if (top.equals("L") && "<>=".indexOf(sign) >= 0) {
                due.push("D");
                return true;
            }
            if (top.matches("[12]") && digit) {
                if (top.equals("2")) {
                    due.push("1");
                }
                return true;
            }
            if (top.equals("L") || top.matches("[12]")) {
                continue;
            }
            return acceptsFirst(due, top, sign, digit);
        }
        return false;
    }

    private static boolean acceptsFirst(Deque<String> due, String top, char sign, boolean digit) {
        int number = top.length() > 1 ? top.charAt(1) - '0' : 0;
        switch (top.charAt(0)) {
            case 'N':
                return sign >= 'a' && sign <= 'l';
            case 'K':
                return sign >= '1' && sign <= '0' + number;
            case 'D':
                due.push("2");
                return digit;
            case 'T':
                return acceptsType(due, number, sign);
            case 'F':
                if (sign >= 'a' && sign <= 'l' && number < 5) {
                    pushAll(due, ":", "T" + (number + 1), ";", top);
                    return true;
                }
                return sign == '}';
            case 'C':
                if (digit) {
                    pushAll(due, "2", ":", "T" + (number + 1), ";", top);
                    return true;
                }
                return sign == '}';
            default:
                return top.charAt(0) == sign;
        }
    }

    private static boolean acceptsType(Deque<String> due, int depth, char sign) {
        if ("*/?".indexOf(sign) >= 0 && depth == 5) {
            return false;
        }
        switch (sign) {
            case 'u', 'v', 's' -> pushAll(due, "K4", "L");
            case 'p' -> pushAll(due, "K7", "L");
            case '{' -> pushAll(due, "F" + depth);
            case '*', '/' -> pushAll(due, "N", "T" + (depth + 1));
            case '?' -> pushAll(due, "N", "{", "D", ":", "T" + (depth + 1), ";", "C" + depth);
            case 'f', 'd', 'z', 'r' -> { }
            default -> {
                return false;
            }
        }
        return true;
    }

    private static void pushAll(Deque<String> due, String... next) {
        for (int i = next.length - 1; i >= 0; i--) {
            due.push(next[i]);
        }
    }

    /** A TYPE of a text that is whole. */
    private static final class Type {
        char kind;
        int n;
        long low;
        long high;
        char keyName;
        Type key;
        final List<Type> parts = new ArrayList<>();
        final List<Character> names = new ArrayList<>();
        final List<Integer> figures = new ArrayList<>();
        long least;
        long most;
        long last;
    }

    private int at;

    private Type parsed() {
        Type type = new Type();
        type.kind = text.charAt(at++);
        if ("uvsp".indexOf(type.kind) >= 0) {
            type.n = text.charAt(at++) - '0';
            long all = 1L << (type.kind == 'p' ? type.n : 8 * type.n);
            type.low = type.kind == 's' ? -all / 2 : 0;
            type.high = type.low + all - 1;
            if (at < text.length() && "<>=".indexOf(text.charAt(at)) >= 0) {
                char how = text.charAt(at++);
                int figure = figure();
                type.low = how == '<' ? type.low : Math.max(type.low, how == '=' ? figure : figure + 1);
                type.high = how == '>' ? type.high : Math.min(type.high, how == '=' ? figure : figure - 1);
            }
        } else if (type.kind == '{') {
            while (text.charAt(at) != '}') {
                type.names.add(text.charAt(at));
                at += 2;
                type.parts.add(parsed());
                at++;
            }
            at++;
        } else if (type.kind == '*' || type.kind == '/') {
            type.keyName = text.charAt(at++);
            type.parts.add(parsed());
        } else if (type.kind == '?') {
            type.keyName = text.charAt(at);
            at += 2;
            while (text.charAt(at) != '}') {
                type.figures.add(figure());
                at++;
                type.parts.add(parsed());
                at++;
            }
            at++;
        }
        return type;
    }

    private int figure() {
        int from = at;
        while (at < text.length() && at < from + 3 && Character.isDigit(text.charAt(at))) {
            at++;
        }
        return Integer.parseInt(text.substring(from, at));
    }

    // ---- SOUND

    int compile() {
        compiled = null;
        if (fault() != -2) {
            throw new UnsupportedOperationException();
        }
        at = 0;
        Type type = parsed();
        if (type.kind == 'r') {
            type.most = 120;
        } else {
            measure(type, new ArrayList<>(), new ArrayList<>(), true, false);
        }
        compiled = type;
        return (int) type.most;
    }

    int size(boolean most) {
        if (compiled == null) {
            throw new NoSuchElementException();
        }
        return (int) (most ? compiled.most : compiled.least);
    }

    private static void demand(boolean good) {
        if (!good) {
            throw new IllegalStateException();
        }
    }

    /** The names and fields are those that stand open before the type. */
    private static void measure(Type type, List<Character> names, List<Type> fields, boolean whole, boolean mayBeBits) {
        if ("*/?".indexOf(type.kind) >= 0) {
            int which = names.lastIndexOf(type.keyName);
            demand(which >= 0);
            type.key = fields.get(which);
        }
        switch (type.kind) {
            case 'u', 'v', 's' -> type.least = type.most = type.n;
            case 'p' -> demand(mayBeBits);
            case 'f' -> type.least = type.most = 4;
            case 'd' -> type.least = type.most = 8;
            case 'z' -> {
                type.least = 1;
                type.most = 21;
            }
            case 'r' -> demand(false);
            case '{' -> measureStructure(type, names, fields, whole);
            case '?' -> measureChoice(type, names, fields);
            default -> {
                Type part = type.parts.get(0);
                measure(part, names, fields, false, false);
                boolean counted = type.kind == '*';
                demand((counted ? part.most : part.least) > 0);
                type.least = Math.max(0, type.key.low) * (counted ? part.least : 1);
                type.most = Math.max(0, type.key.high) * (counted ? part.most : 1);
            }
        }
        demand("uvsp".indexOf(type.kind) < 0 || type.low <= type.high);
        demand(type.most <= 1000);
    }

    private static void measureStructure(Type type, List<Character> names, List<Type> fields, boolean whole) {
        List<Character> innerNames = new ArrayList<>(names);
        List<Type> innerFields = new ArrayList<>(fields);
        int bits = 0;
        for (int i = 0; i < type.parts.size(); i++) {
            Type part = type.parts.get(i);
            if (part.kind == 'r' && whole && i == type.parts.size() - 1) {
                part.most = 120;
            } else {
                measure(part, innerNames, innerFields, false, true);
            }
            if ("uvsp".indexOf(part.kind) >= 0) {
                innerNames.add(type.names.get(i));
                innerFields.add(part);
            }
            if (part.kind == 'p') {
                // Bytes are counted when their first bit comes.
                int more = (bits + part.n + 7) / 8 - (bits + 7) / 8;
                type.least += more;
                type.most += more;
                bits += part.n;
            } else {
                bits = 0;
                type.least += part.least;
                type.most += part.most;
            }
        }
    }

    private static void measureChoice(Type type, List<Character> names, List<Type> fields) {
        Set<Integer> seen = new HashSet<>();
        type.least = Long.MAX_VALUE;
        for (int i = 0; i < type.parts.size(); i++) {
            measure(type.parts.get(i), names, fields, false, false);
            int figure = type.figures.get(i);
            demand(seen.add(figure) && figure >= type.key.low && figure <= type.key.high);
            type.least = Math.min(type.least, type.parts.get(i).least);
            type.most = Math.max(type.most, type.parts.get(i).most);
        }
    }

    // ---- MESSAGE and VALUES

    int put(long bytes, int count) {
        if (count < 1 || count > 8) {
            throw new IllegalArgumentException();
        }
        if (message.length() / 8 + count > 120) {
            throw new IllegalStateException();
        }
        String all = "0".repeat(64) + Long.toBinaryString(bytes);
        message += all.substring(all.length() - 8 * count);
        return message.length() / 8;
    }

    int cut(int length) {
        if (length < 0 || length > message.length() / 8) {
            throw new IllegalArgumentException();
        }
        message = message.substring(0, 8 * length);
        return length;
    }

    int byteAt(int i) {
        if (i < 0 || i >= message.length() / 8) {
            throw new IndexOutOfBoundsException();
        }
        return Integer.parseInt(message.substring(8 * i, 8 * i + 8), 2);
    }

    long value(int i) {
        return values.get(i);
    }

    double real(int i) {
        double d = Double.longBitsToDouble(values.get(i));
        return Double.isNaN(d) ? 0.0 : d;
    }

    int set(int i, long v) {
        if (i < 0 || i > values.size()) {
            throw new IllegalArgumentException();
        }
        if (i == values.size()) {
            demand(i < 160);
            values.add(v);
        }
        values.set(i, v);
        return values.size();
    }

    int drop(int i, int n) {
        values.subList(java.util.Objects.checkFromIndexSize(i, n, values.size()), i + n).clear();
        return values.size();
    }

    int count(int what) {
        return switch (what) {
            case 0 -> text.length();
            case 1 -> message.length() / 8;
            case 2 -> values.size();
            case 3 -> spot;
            case 4 -> name;
            case 5 -> compiled != null ? 1 : 0;
            default -> throw new IllegalArgumentException();
        };
    }

    // ---- READING and WRITING

    private boolean reads;
    /** What is still to be read, or what was written. */
    private String bits;
    private List<Long> passed;
    /** Behind BITS whose byte is not looked at yet. */
    private boolean open;
    private int newSpot;
    private int newName;

    int read() {
        go(true);
        if (!bits.isEmpty()) {
            spot = count(1) - bits.length() / 8;
            name = -1;
            throw new IndexOutOfBoundsException();
        }
        values = passed;
        return values.size();
    }

    int write() {
        go(false);
        if (!passed.isEmpty()) {
            throw new IndexOutOfBoundsException();
        }
        message = bits;
        return message.length() / 8;
    }

    private void go(boolean reading) {
        if (compiled == null) {
            throw new UnsupportedOperationException();
        }
        reads = reading;
        bits = reading ? message : "";
        passed = reading ? new ArrayList<>() : new ArrayList<>(values);
        open = false;
        try {
            pass(compiled, -1);
        } catch (NoSuchElementException | IllegalStateException e) {
            spot = newSpot;
            name = newName;
            throw e;
        }
    }

    private int bitsGone() {
        return reads ? message.length() - bits.length() : bits.length();
    }

    /** Reads this many bits, or writes the lowest of the value. */
    private long field(int n, long v) {
        if (reads) {
            if (bits.length() < n) {
                throw new NoSuchElementException();
            }
            long read = Long.parseUnsignedLong(bits.substring(0, n), 2);
            bits = bits.substring(n);
            return read;
        }
        String all = "0".repeat(64) + Long.toBinaryString(v);
        bits += all.substring(all.length() - n);
        demand(bits.length() <= 960);
        return v;
    }

    /** The VALUE that comes next in writing. */
    private long next() {
        if (reads) {
            return 0;
        }
        if (passed.isEmpty()) {
            throw new NoSuchElementException();
        }
        return passed.remove(0);
    }

    private long keep(long v, long low, long high) {
        demand(v >= low && v <= high);
        if (reads) {
            passed.add(v);
            demand(passed.size() <= 160);
        }
        return v;
    }

    private void closeByte() {
        while (open && bitsGone() % 8 != 0) {
            demand(field(1, 0) == 0);
        }
        open = false;
    }

    private void begin(Type type, int around, boolean follows) {
        if (!follows) {
            closeByte();
        }
        newSpot = bitsGone() / 8;
        newName = around;
    }

    private void pass(Type type, int around) {
        switch (type.kind) {
            case '{' -> passStructure(type);
            case '*', '/' -> passArray(type, around);
            case '?' -> {
                int which = type.key.last < 0 || type.key.last > 999 ? -1 : type.figures.indexOf((int) type.key.last);
                demand(which >= 0);
                pass(type.parts.get(which), around);
            }
            default -> {
                begin(type, around, false);
                passUnit(type);
            }
        }
    }

    private void passStructure(Type type) {
        for (int i = 0; i < type.parts.size(); i++) {
            Type part = type.parts.get(i);
            int around = type.names.get(i) - 'a';
            if (part.kind == 'p') {
                begin(part, around, i > 0 && type.parts.get(i - 1).kind == 'p');
                long v = next();
                if (!reads) {
                    keep(v, part.low, part.high);
                }
                part.last = keep(field(part.n, v), part.low, part.high);
                open = true;
            } else {
                pass(part, around);
            }
        }
        closeByte();
    }

    private void passArray(Type type, int around) {
        long much = type.key.last;
        demand(much >= 0);
        if (type.kind == '*') {
            for (long k = 0; k < much; k++) {
                pass(type.parts.get(0), around);
            }
            return;
        }
        closeByte();
        int from = bitsGone();
        while (bitsGone() - from < 8 * much) {
            pass(type.parts.get(0), around);
        }
        demand(bitsGone() - from == 8 * much);
    }

    private void passUnit(Type type) {
        long v = next();
        switch (type.kind) {
            case 'z' -> {
                if (reads) {
                    int end = 0;
                    while (end < bits.length() && !bits.startsWith("00000000", end)) {
                        end += 8;
                    }
                    demand(end <= 160);
                    if (end == bits.length()) {
                        throw new NoSuchElementException();
                    }
                    v = end / 8;
                }
                passBytes(v, 20, 1);
                field(8, 0);
            }
            case 'r' -> passBytes(reads ? bits.length() / 8 : v, 120, 0);
            case 'f', 'd' -> {
                int n = type.kind == 'f' ? 32 : 64;
                long far = Long.MAX_VALUE >> 64 - n;
                demand(reads || v >= -far - 1 && v <= far);
                v = field(n, v);
                keep(n == 32 ? (int) v : v, -far - 1, far);
            }
            default -> {
                int n = 8 * type.n;
                if (!reads) {
                    keep(v, type.low, type.high);
                }
                v = type.kind == 'v' ? turned(field(n, turned(v, n)), n) : field(n, v);
                type.last = keep(type.kind == 's' ? v << 64 - n >> 64 - n : v, type.low, type.high);
            }
        }
    }

    private static long turned(long v, int n) {
        return Long.reverseBytes(v) >>> 64 - n;
    }

    private void passBytes(long many, int atMost, int low) {
        keep(many, 0, atMost);
        for (long k = 0; k < many; k++) {
            long v = next();
            if (!reads) {
                keep(v, low, 255);
            }
            keep(field(8, v), low, 255);
        }
    }
}
