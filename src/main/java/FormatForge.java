import java.util.NoSuchElementException;

/**
 * Binary formats told by a text: the text is checked and compiled, messages are read by it into a
 * list of values, and lists of values are written back as bytes.
 */
public final class FormatForge {
    private static final int TEXT_ROOM = 90;
    private static final int MESSAGE_ROOM = 120;
    private static final int VALUES_ROOM = 160;
    private static final int DEEPEST = 5;
    private static final int MOST_ROOM = 1000;
    private static final int WORDS_ROOM = 20;
    private static final int WHOLE = -2;
    private static final int NO_NAME = -1;

    /* A TYPE's kind is the sign that it begins with. */
    private static final char HIGH_FIRST = 'u';
    private static final char LOW_FIRST = 'v';
    private static final char SIGNED = 's';
    private static final char BITS = 'p';
    private static final char FLOAT = 'f';
    private static final char DOUBLE = 'd';
    private static final char WORDS = 'z';
    private static final char REST = 'r';
    private static final char STRUCTURE = '{';
    private static final char COUNTED = '*';
    private static final char SIZED = '/';
    private static final char CHOICE = '?';

    /* How reading or writing came out. */
    private static final int FINE = 0;
    private static final int END = 1;
    private static final int WRONG = 2;

    private final Bytes text;
    private final Bytes message;
    private final Longs values;
    /* Rooms for what a call makes and may throw away. */
    private final Bytes made;
    private final Longs found;
    private Format draft;
    private Format compiled;
    private boolean isCompiled;
    private int spot;
    private int name;

    public FormatForge() {
        text = new Bytes(TEXT_ROOM);
        message = new Bytes(MESSAGE_ROOM);
        values = new Longs(VALUES_ROOM);
        made = new Bytes(MESSAGE_ROOM);
        found = new Longs(VALUES_ROOM);
        draft = new Format();
        compiled = new Format();
        isCompiled = false;
        spot = -1;
        name = NO_NAME;
    }

    public int type(long signs) throws IllegalArgumentException, IllegalStateException {
        int more = 0;
        for (int shift = 56; shift >= 0; shift -= 8) {
            int sign = byteOf(signs, shift);
            if (sign != 0 && (sign < 33 || sign > 126)) {
                throw new IllegalArgumentException("a sign is none of 33 .. 126");
            }
            more += sign != 0 ? 1 : 0;
        }
        if (!text.hasRoomFor(more)) {
            throw new IllegalStateException("the text would be too long");
        }
        for (int shift = 56; shift >= 0; shift -= 8) {
            int sign = byteOf(signs, shift);
            if (sign != 0) {
                text.append(sign);
            }
        }
        return text.length;
    }

    public int clear() {
        int was = text.length;
        text.forgetAll();
        return was;
    }

    public int fault() {
        return new Parser(text, draft).parse();
    }

    public int compile() throws UnsupportedOperationException, IllegalStateException {
        isCompiled = false;
        if (new Parser(text, draft).parse() != WHOLE) {
            throw new UnsupportedOperationException("the text is no whole type");
        }
        if (!draft.isSound()) {
            throw new IllegalStateException("the text is not sound");
        }
        Format old = compiled;
        compiled = draft;
        draft = old;
        isCompiled = true;
        return compiled.most();
    }

    public int size(boolean most) throws NoSuchElementException {
        if (!isCompiled) {
            throw new NoSuchElementException("nothing is compiled");
        }
        return most ? compiled.most() : compiled.least();
    }

    public int put(long bytes, int count) throws IllegalArgumentException, IllegalStateException {
        if (count < 1 || count > 8) {
            throw new IllegalArgumentException("count is none of 1 .. 8");
        }
        if (!message.hasRoomFor(count)) {
            throw new IllegalStateException("the message would be too long");
        }
        for (int shift = 8 * count - 8; shift >= 0; shift -= 8) {
            message.append(byteOf(bytes, shift));
        }
        return message.length;
    }

    public int cut(int length) throws IllegalArgumentException {
        if (length < 0 || length > message.length) {
            throw new IllegalArgumentException("length is none of 0 .. the message's");
        }
        message.shortenTo(length);
        return length;
    }

    public int read() throws UnsupportedOperationException, NoSuchElementException,
            IllegalStateException, IndexOutOfBoundsException {
        demandCompiled();
        found.forgetAll();
        Reading reading = new Reading(message, found);
        demandFine(reading, reading.pass(compiled));
        if (reading.bytesPassed() < message.length) {
            spot = reading.bytesPassed();
            name = NO_NAME;
            throw new IndexOutOfBoundsException("bytes are left");
        }
        values.becomeLike(found);
        return values.length;
    }

    public int write() throws UnsupportedOperationException, NoSuchElementException,
            IllegalStateException, IndexOutOfBoundsException {
        demandCompiled();
        made.forgetAll();
        Writing writing = new Writing(values, made);
        demandFine(writing, writing.pass(compiled));
        if (writing.taken < values.length) {
            throw new IndexOutOfBoundsException("values are left");
        }
        message.becomeLike(made);
        return message.length;
    }

    public long value(int i) throws IndexOutOfBoundsException {
        demandValue(i);
        return values.at(i);
    }

    public double real(int i) throws IndexOutOfBoundsException {
        demandValue(i);
        return doubleOf(values.at(i));
    }

    public int set(int i, long v) throws IllegalArgumentException, IllegalStateException {
        if (i < 0 || i > values.length) {
            throw new IllegalArgumentException("i is none of 0 .. how many values there are");
        }
        if (i < values.length) {
            values.replace(i, v);
        } else if (!values.append(v)) {
            throw new IllegalStateException("there would be too many values");
        }
        return values.length;
    }

    public int drop(int i, int n) throws IndexOutOfBoundsException {
        if (i < 0 || n < 0 || i > values.length || n > values.length - i) {
            throw new IndexOutOfBoundsException("there are not that many values");
        }
        values.takeOut(i, n);
        return values.length;
    }

    public int byteAt(int i) throws IndexOutOfBoundsException {
        if (i < 0 || i >= message.length) {
            throw new IndexOutOfBoundsException("there is no such byte");
        }
        return message.at(i);
    }

    public int count(int what) throws IllegalArgumentException {
        switch (what) {
            case 0:
                return text.length;
            case 1:
                return message.length;
            case 2:
                return values.length;
            case 3:
                return spot;
            case 4:
                return name;
            case 5:
                return isCompiled ? 1 : 0;
            default:
                throw new IllegalArgumentException("what is none of 0 .. 5");
        }
    }

    private void demandCompiled() {
        if (!isCompiled) {
            throw new UnsupportedOperationException("nothing is compiled");
        }
    }

    private void demandFine(Course course, int outcome) {
        if (outcome == FINE) {
            return;
        }
        spot = course.spot;
        name = course.name;
        if (outcome == END) {
            throw new NoSuchElementException("something is needed but not there");
        }
        throw new IllegalStateException("something is wrong");
    }

    private void demandValue(int i) {
        if (i < 0 || i >= values.length) {
            throw new IndexOutOfBoundsException("there is no such value");
        }
    }

    private static int byteOf(long number, int shift) {
        return (int) (number >>> shift) & 255;
    }

    /** Made by doubling and halving alone, each step of which is exact (or becomes infinite). */
    private static double doubleOf(long bits) {
        int exponent = (int) (bits >>> 52) & 2047;
        long fraction = bits & (1L << 52) - 1;
        if (exponent == 2047 && fraction != 0) {
            return 0.0;
        }
        double result = (double) (exponent == 0 ? fraction : fraction + (1L << 52));
        if (bits < 0) {
            result = result * -1.0;
        }
        int power = Math.max(exponent, 1) - 1075;
        for (int k = 0; k < power; k++) {
            result = result * 2.0;
        }
        for (int k = 0; k > power; k--) {
            result = result * 0.5;
        }
        return result;
    }

    /** A row of bytes with a fixed room. */
    private static final class Bytes {
        final byte[] row;
        int length;

        Bytes(int room) {
            row = new byte[room];
            length = 0;
        }

        boolean hasRoomFor(int more) {
            return more <= row.length - length;
        }

        int at(int i) {
            return i >= 0 && i < length ? row[i] & 255 : 0;
        }

        boolean append(int b) {
            if (length >= row.length) {
                return false;
            }
            row[length] = (byte) b;
            length++;
            return true;
        }

        void markInLast(int mask) {
            if (length > 0) {
                row[length - 1] = (byte) (row[length - 1] | mask);
            }
        }

        void shortenTo(int newLength) {
            if (newLength >= 0 && newLength < length) {
                length = newLength;
            }
        }

        void forgetAll() {
            length = 0;
        }

        void becomeLike(Bytes other) {
            length = Math.min(other.length, row.length);
            System.arraycopy(other.row, 0, row, 0, length);
        }
    }

    /** A row of longs with a fixed room. */
    private static final class Longs {
        final long[] row;
        int length;

        Longs(int room) {
            row = new long[room];
            length = 0;
        }

        long at(int i) {
            return i >= 0 && i < length ? row[i] : 0;
        }

        boolean append(long v) {
            if (length >= row.length) {
                return false;
            }
            row[length] = v;
            length++;
            return true;
        }

        void replace(int i, long v) {
            if (i >= 0 && i < length) {
                row[i] = v;
            }
        }

        void takeOut(int i, int n) {
            if (i >= 0 && n >= 0 && i <= length && n <= length - i) {
                System.arraycopy(row, i + n, row, i, length - i - n);
                length -= n;
            }
        }

        void forgetAll() {
            length = 0;
        }

        void becomeLike(Longs other) {
            length = Math.min(other.length, row.length);
            System.arraycopy(other.row, 0, row, 0, length);
        }
    }

    /** A TYPE in a text. What stands in it are its parts, chained in their order. */
    private static final class Node {
        int kind;
        /** How many bytes, of BITS how many bits. */
        int width;
        /** Of the innermost FIELD around. */
        int name;
        /** Of the CASE whose TYPE this is. */
        int figure;
        /** The name after the sign of a COUNTED, SIZED or CHOICE, and the FIELD that it means. */
        int key;
        Node meant;
        Node outer;
        Node before;
        Node next;
        Node firstPart;
        Node lastPart;
        long low;
        long high;
        long least;
        long most;
        /** The VALUE that was passed for this last. */
        long latest;

        void become(int newKind, Node newOuter, int newName) {
            kind = newKind;
            outer = newOuter;
            name = newName;
            width = 0;
            figure = 0;
            key = NO_NAME;
            meant = null;
            before = null;
            next = null;
            firstPart = null;
            lastPart = null;
            low = 0;
            high = 0;
            least = 0;
            most = 0;
            latest = 0;
        }

        void addPart(Node part) {
            part.before = lastPart;
            if (lastPart == null) {
                firstPart = part;
            } else {
                lastPart.next = part;
            }
            lastPart = part;
        }

        boolean isPartOf(int outerKind) {
            return outer != null && outer.kind == outerKind;
        }

        boolean mayBeNegative() {
            return kind == SIGNED || kind == FLOAT || kind == DOUBLE;
        }

        boolean canBeMeant() {
            return kind == HIGH_FIRST || kind == LOW_FIRST || kind == SIGNED || kind == BITS;
        }

        boolean hasKey() {
            return kind == COUNTED || kind == SIZED || kind == CHOICE;
        }

        /** All VALUES that the width can hold. */
        void widenTo(int newWidth) {
            width = newWidth;
            int bits = kind == BITS ? width : 8 * width;
            if (mayBeNegative()) {
                low = -1L << bits - 1;
                high = ~low;
            } else {
                low = 0;
                high = (1L << bits) - 1;
            }
        }

        void limitTo(int sign, int limit) {
            if (sign != '<') {
                low = Math.max(low, sign == '>' ? limit + 1 : limit);
            }
            if (sign != '>') {
                high = Math.min(high, sign == '<' ? limit - 1 : limit);
            }
        }

        boolean holds(long v) {
            return v >= low && v <= high;
        }
    }

    /** The TYPES of a text, outer ones before what stands in them; the first is the whole. */
    private static final class Format {
        final Node[] nodes;
        int used;

        Format() {
            nodes = new Node[TEXT_ROOM];
            for (int i = 0; i < TEXT_ROOM; i++) {
                nodes[i] = new Node();
            }
            used = 0;
        }

        void forgetAll() {
            used = 0;
        }

        /** Null if there is no room, which can't be: a TYPE has a sign of its own. */
        Node fresh(int kind, Node outer, int name) {
            if (used >= nodes.length) {
                return null;
            }
            Node node = nodes[used];
            used++;
            node.become(kind, outer, name);
            return node;
        }

        Node whole() {
            return used > 0 ? nodes[0] : null;
        }

        int least() {
            Node whole = whole();
            return whole == null ? 0 : (int) whole.least;
        }

        int most() {
            Node whole = whole();
            return whole == null ? 0 : (int) whole.most;
        }

        boolean isSound() {
            for (int i = 0; i < used; i++) {
                Node node = nodes[i];
                if (!isInPlace(node) || node.low > node.high || !findMeaning(node)) {
                    return false;
                }
            }
            // Backwards, since a TYPE is measured by its parts.
            for (int i = used - 1; i >= 0; i--) {
                measure(nodes[i]);
                if (nodes[i].most > MOST_ROOM || !repeatsFittingly(nodes[i])) {
                    return false;
                }
            }
            return true;
        }

        private static boolean isInPlace(Node node) {
            if (node.kind == BITS) {
                return node.isPartOf(STRUCTURE);
            }
            return node.kind != REST || node.outer == null || isLastOfWhole(node);
        }

        private static boolean isLastOfWhole(Node node) {
            return node.isPartOf(STRUCTURE) && node.outer.outer == null && node.next == null;
        }

        private static boolean findMeaning(Node node) {
            if (!node.hasKey()) {
                return true;
            }
            node.meant = fieldMeantIn(node);
            if (node.meant == null) {
                return false;
            }
            return node.kind != CHOICE || hasGoodFigures(node);
        }

        /** From the inside out and backwards, so that the latest FIELD comes first. */
        private static Node fieldMeantIn(Node node) {
            for (Node inner = node; inner != null; inner = inner.outer) {
                if (inner.isPartOf(STRUCTURE)) {
                    Node field = latestBefore(inner, node.key);
                    if (field != null) {
                        return field;
                    }
                }
            }
            return null;
        }

        private static Node latestBefore(Node node, int name) {
            for (Node field = node.before; field != null; field = field.before) {
                if (field.name == name && field.canBeMeant()) {
                    return field;
                }
            }
            return null;
        }

        private static boolean hasGoodFigures(Node choice) {
            for (Node part = choice.firstPart; part != null; part = part.next) {
                if (choice.meant == null || !choice.meant.holds(part.figure)) {
                    return false;
                }
                for (Node other = part.before; other != null; other = other.before) {
                    if (other.figure == part.figure) {
                        return false;
                    }
                }
            }
            return true;
        }

        private static void measure(Node node) {
            switch (node.kind) {
                case STRUCTURE:
                    measureStructure(node);
                    break;
                case COUNTED:
                case SIZED:
                    measureArray(node);
                    break;
                case CHOICE:
                    measureChoice(node);
                    break;
                case WORDS:
                    node.least = 1;
                    node.most = WORDS_ROOM + 1;
                    break;
                case REST:
                    node.least = 0;
                    node.most = MESSAGE_ROOM;
                    break;
                default:
                    node.least = node.width;
                    node.most = node.width;
            }
        }

        private static void measureStructure(Node node) {
            long least = 0;
            long most = 0;
            int bits = 0;
            for (Node part = node.firstPart; part != null; part = part.next) {
                if (part.kind == BITS) {
                    bits += part.width;
                } else {
                    least += bytesFor(bits) + part.least;
                    most += bytesFor(bits) + part.most;
                    bits = 0;
                }
            }
            node.least = least + bytesFor(bits);
            node.most = most + bytesFor(bits);
        }

        private static int bytesFor(int bits) {
            return (bits + 7) / 8;
        }

        private static void measureArray(Node node) {
            Node part = node.firstPart;
            Node field = node.meant;
            if (part == null || field == null) {
                return;
            }
            node.least = Math.max(field.low, 0) * (node.kind == SIZED ? 1 : part.least);
            node.most = Math.max(field.high, 0) * (node.kind == SIZED ? 1 : part.most);
        }

        private static void measureChoice(Node node) {
            node.least = MOST_ROOM;
            for (Node part = node.firstPart; part != null; part = part.next) {
                node.least = Math.min(node.least, part.least);
                node.most = Math.max(node.most, part.most);
            }
        }

        private static boolean repeatsFittingly(Node node) {
            Node part = node.firstPart;
            if (node.kind == COUNTED) {
                return part != null && part.most > 0;
            }
            if (node.kind == SIZED) {
                return part != null && part.least > 0;
            }
            return true;
        }
    }

    /**
     * Takes a text apart. Each method passes what it is named after and answers true, or stops at
     * the first sign that can't stand, or at the text's end, and answers false or the like.
     */
    private static final class Parser {
        final Bytes text;
        final Format format;
        int place;

        Parser(Bytes text, Format format) {
            this.text = text;
            this.format = format;
            place = 0;
        }

        /** Fills the format; answers the place where it had to stop, or WHOLE. */
        int parse() {
            format.forgetAll();
            boolean isWhole = passType(null, NO_NAME, 1) != null && place == text.length;
            return isWhole ? WHOLE : place;
        }

        /** Null if it stopped. */
        private Node passType(Node outer, int name, int depth) {
            int kind = text.at(place);
            if (depth > DEEPEST || !beginsType(kind, depth)) {
                return null;
            }
            Node node = format.fresh(kind, outer, name);
            if (node == null) {
                return null;
            }
            place++;
            return passTail(node, depth) ? node : null;
        }

        /** What must have a TYPE in it can't stand at the deepest place. */
        private static boolean beginsType(int sign, int depth) {
            switch (sign) {
                case HIGH_FIRST:
                case LOW_FIRST:
                case SIGNED:
                case BITS:
                case FLOAT:
                case DOUBLE:
                case WORDS:
                case REST:
                case STRUCTURE:
                    return true;
                case COUNTED:
                case SIZED:
                case CHOICE:
                    return depth < DEEPEST;
                default:
                    return false;
            }
        }

        private boolean passTail(Node node, int depth) {
            switch (node.kind) {
                case STRUCTURE:
                    return passFields(node, depth);
                case COUNTED:
                case SIZED:
                    return passKey(node) && passPart(node, node.name, depth) != null;
                case CHOICE:
                    return passKey(node) && passSign('{') && passCases(node, depth);
                case BITS:
                    return passWidth(node, 7) && passLimit(node);
                case FLOAT:
                    node.widenTo(4);
                    return true;
                case DOUBLE:
                    node.widenTo(8);
                    return true;
                case WORDS:
                case REST:
                    return true;
                default:
                    return passWidth(node, 4) && passLimit(node);
            }
        }

        private Node passPart(Node node, int name, int depth) {
            Node part = passType(node, name, depth + 1);
            if (part != null) {
                node.addPart(part);
            }
            return part;
        }

        private boolean passFields(Node node, int depth) {
            for (int k = 0; k < TEXT_ROOM; k++) {
                if (passSign('}')) {
                    return true;
                }
                if (depth >= DEEPEST || !passField(node, depth)) {
                    return false;
                }
            }
            return false;
        }

        private boolean passField(Node node, int depth) {
            int name = passName();
            return name != NO_NAME && passSign(':') && passPart(node, name, depth) != null
                    && passSign(';');
        }

        private boolean passCases(Node node, int depth) {
            for (int k = 0; k < TEXT_ROOM; k++) {
                if (k > 0 && passSign('}')) {
                    return true;
                }
                if (!passCase(node, depth)) {
                    return false;
                }
            }
            return false;
        }

        private boolean passCase(Node node, int depth) {
            int figure = passFigure();
            if (figure < 0 || !passSign(':')) {
                return false;
            }
            Node part = passPart(node, node.name, depth);
            if (part == null) {
                return false;
            }
            part.figure = figure;
            return passSign(';');
        }

        private boolean passKey(Node node) {
            node.key = passName();
            return node.key != NO_NAME;
        }

        private boolean passWidth(Node node, int widest) {
            int width = text.at(place) - '0';
            if (width < 1 || width > widest) {
                return false;
            }
            place++;
            node.widenTo(width);
            return true;
        }

        /** None is as good as one. */
        private boolean passLimit(Node node) {
            int sign = text.at(place);
            if (sign != '<' && sign != '>' && sign != '=') {
                return true;
            }
            place++;
            int figure = passFigure();
            if (figure < 0) {
                return false;
            }
            node.limitTo(sign, figure);
            return true;
        }

        /** -1 if it stopped. */
        private int passFigure() {
            int figure = -1;
            for (int k = 0; k < 3; k++) {
                int digit = text.at(place) - '0';
                if (digit < 0 || digit > 9) {
                    return figure;
                }
                place++;
                figure = Math.max(figure, 0) * 10 + digit;
            }
            return figure;
        }

        /** NO_NAME if it stopped. */
        private int passName() {
            int sign = text.at(place);
            if (sign < 'a' || sign > 'l') {
                return NO_NAME;
            }
            place++;
            return sign - 'a';
        }

        private boolean passSign(int sign) {
            if (text.at(place) != sign) {
                return false;
            }
            place++;
            return true;
        }
    }

    /** The way through a format that reading and writing share. */
    private abstract static class Course {
        /** How many bits were passed. */
        int bit;
        int spot;
        int name;

        Course() {
            bit = 0;
            spot = -1;
            name = NO_NAME;
        }

        abstract int passNumber(Node node);

        abstract int passBits(Node node);

        abstract int passWords();

        abstract int passRest();

        /** Passes what is left of a byte behind BITS. */
        abstract int passSpare();

        int pass(Format format) {
            return passType(format.whole(), 1);
        }

        int bytesPassed() {
            return (bit + 7) / 8;
        }

        private int passType(Node node, int depth) {
            if (node == null || depth > DEEPEST) {
                return WRONG;
            }
            switch (node.kind) {
                case STRUCTURE:
                    return passFields(node, depth);
                case COUNTED:
                    return passCounted(node, depth);
                case SIZED:
                    return passSized(node, depth);
                case CHOICE:
                    return passChoice(node, depth);
                default:
                    return passUnit(node);
            }
        }

        private int passUnit(Node node) {
            spot = bit / 8;
            name = node.name;
            switch (node.kind) {
                case BITS:
                    return passBits(node);
                case WORDS:
                    return passWords();
                case REST:
                    return passRest();
                default:
                    return passNumber(node);
            }
        }

        private int passFields(Node node, int depth) {
            for (Node part = node.firstPart; part != null; part = part.next) {
                int outcome = part.kind == BITS ? FINE : passSpare();
                if (outcome == FINE) {
                    outcome = passType(part, depth + 1);
                }
                if (outcome != FINE) {
                    return outcome;
                }
            }
            return passSpare();
        }

        private int passCounted(Node node, int depth) {
            long times = told(node);
            int outcome = times < 0 ? WRONG : FINE;
            for (long k = 0; k < times && outcome == FINE; k++) {
                outcome = passType(node.firstPart, depth + 1);
            }
            return outcome;
        }

        private int passSized(Node node, int depth) {
            long wanted = told(node);
            int outcome = wanted < 0 ? WRONG : FINE;
            long end = bytesPassed() + wanted;
            // Each round passes a byte at least, so the bound is never what ends it.
            for (int k = 0; k < MOST_ROOM && outcome == FINE && bytesPassed() < end; k++) {
                outcome = passType(node.firstPart, depth + 1);
            }
            return outcome == FINE && bytesPassed() > end ? WRONG : outcome;
        }

        private int passChoice(Node node, int depth) {
            long figure = told(node);
            for (Node part = node.firstPart; part != null; part = part.next) {
                if (part.figure == figure) {
                    return passType(part, depth + 1);
                }
            }
            return WRONG;
        }

        /** The VALUE of the FIELD that a name means. */
        private static long told(Node node) {
            return node.meant == null ? -1 : node.meant.latest;
        }
    }

    private static final class Reading extends Course {
        final Bytes message;
        final Longs found;

        Reading(Bytes message, Longs found) {
            this.message = message;
            this.found = found;
        }

        int passNumber(Node node) {
            int from = bytesPassed();
            if (node.width > message.length - from) {
                return END;
            }
            long v = 0;
            for (int k = 0; k < node.width; k++) {
                int i = node.kind == LOW_FIRST ? node.width - 1 - k : k;
                v = v << 8 | message.at(from + i);
            }
            if (node.mayBeNegative()) {
                int above = 64 - 8 * node.width;
                v = v << above >> above;
            }
            bit += 8 * node.width;
            return keep(node, v);
        }

        int passBits(Node node) {
            if (node.width > 8 * message.length - bit) {
                return END;
            }
            long v = 0;
            for (int k = 0; k < node.width; k++) {
                v = v << 1 | nextBit();
            }
            return keep(node, v);
        }

        int passWords() {
            int from = bytesPassed();
            int left = message.length - from;
            int many = 0;
            while (many < left && many <= WORDS_ROOM && message.at(from + many) != 0) {
                many++;
            }
            if (many > WORDS_ROOM) {
                return WRONG;
            }
            if (many == left) {
                return END;
            }
            bit += 8 * many + 8;
            return keepBytes(from, many);
        }

        int passRest() {
            int from = bytesPassed();
            int many = message.length - from;
            bit += 8 * many;
            return keepBytes(from, many);
        }

        int passSpare() {
            for (int k = 0; k < 7 && bit % 8 != 0; k++) {
                if (nextBit() != 0) {
                    return WRONG;
                }
            }
            return FINE;
        }

        private int nextBit() {
            int next = message.at(bit / 8) >> 7 - bit % 8 & 1;
            bit++;
            return next;
        }

        private int keep(Node node, long v) {
            if (!node.holds(v) || !found.append(v)) {
                return WRONG;
            }
            node.latest = v;
            return FINE;
        }

        private int keepBytes(int from, int many) {
            boolean fits = found.append(many);
            for (int k = 0; k < many; k++) {
                fits = fits && found.append(message.at(from + k));
            }
            return fits ? FINE : WRONG;
        }
    }

    private static final class Writing extends Course {
        final Longs values;
        final Bytes made;
        int taken;
        /** The VALUE that was taken last. */
        long v;

        Writing(Longs values, Bytes made) {
            this.values = values;
            this.made = made;
            taken = 0;
            v = 0;
        }

        int passNumber(Node node) {
            int outcome = takeFor(node);
            for (int k = 0; k < node.width && outcome == FINE; k++) {
                int i = node.kind == LOW_FIRST ? k : node.width - 1 - k;
                outcome = make(byteOf(v, 8 * i));
            }
            return outcome;
        }

        int passBits(Node node) {
            int outcome = takeFor(node);
            for (int k = node.width - 1; k >= 0 && outcome == FINE; k--) {
                outcome = makeBit((int) (v >> k) & 1);
            }
            return outcome;
        }

        int passWords() {
            int outcome = take(0, WORDS_ROOM);
            if (outcome == FINE) {
                outcome = makeBytes((int) v, 1);
            }
            return outcome == FINE ? make(0) : outcome;
        }

        int passRest() {
            int outcome = take(0, MESSAGE_ROOM);
            return outcome == FINE ? makeBytes((int) v, 0) : outcome;
        }

        int passSpare() {
            bit = 8 * bytesPassed();
            return FINE;
        }

        private int takeFor(Node node) {
            int outcome = take(node.low, node.high);
            if (outcome == FINE) {
                node.latest = v;
            }
            return outcome;
        }

        /** The next VALUE becomes v. */
        private int take(long low, long high) {
            if (taken >= values.length) {
                return END;
            }
            v = values.at(taken);
            taken++;
            return v >= low && v <= high ? FINE : WRONG;
        }

        private int makeBytes(int many, int low) {
            int outcome = FINE;
            for (int k = 0; k < many && outcome == FINE; k++) {
                outcome = take(low, 255);
                if (outcome == FINE) {
                    outcome = make((int) v);
                }
            }
            return outcome;
        }

        private int make(int b) {
            bit += 8;
            return made.append(b) ? FINE : WRONG;
        }

        private int makeBit(int b) {
            if (bit % 8 == 0 && !made.append(0)) {
                return WRONG;
            }
            made.markInLast(b << 7 - bit % 8);
            bit++;
            return FINE;
        }
    }
}
