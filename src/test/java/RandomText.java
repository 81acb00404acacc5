import java.util.ArrayList;
import java.util.List;

/** Makes texts most of which are whole types, and many of them sound. */
final class RandomText {
    private final Dice dice;
    private final StringBuilder text = new StringBuilder();

    private RandomText(Dice dice) {
        this.dice = dice;
    }

    static String of(Dice dice) {
        String text;
        do {
            RandomText made = new RandomText(dice);
            made.addType(1, new ArrayList<>(), true);
            text = made.text.toString();
        } while (text.length() > 90 || text.length() < 12 && !dice.oneIn(6));
        return dice.oneIn(5) ? spoiled(text, dice) : text;
    }

    private static String spoiled(String text, Dice dice) {
        int place = dice.next(text.length() + 1);
        int end = Math.min(text.length(), place + dice.next(3));
        String instead = dice.oneIn(2) ? "" : "" + dice.signOf("uvspfdzr{}*/?:;<>=0123456789abcdefghijklm~!");
        String spoiled = text.substring(0, place) + instead + text.substring(end);
        return spoiled.length() > 90 ? text : spoiled;
    }

    /** The names are those of fields that could be meant. */
    private void addType(int depth, List<Character> names, boolean whole) {
        String kinds = depth == 1 ? "{{{{{{{{{{{{{{{{{{{{{{{{uvsfdzrp" : "uuvsfdzz";
        if (depth > 1 && depth < 5) {
            kinds += "{{" + (names.isEmpty() && !dice.oneIn(20) ? "" : "***///???");
        }
        char kind = dice.oneIn(150) ? dice.signOf("pr") : dice.signOf(kinds);
        text.append(kind);
        switch (kind) {
            case 'u', 'v', 's', 'p' -> addWidth(kind);
            case '{' -> addFields(depth, names, whole);
            case '*', '/' -> {
                text.append(nameOf(names));
                addType(depth + 1, names, false);
            }
            case '?' -> addCases(depth, names);
            default -> { }
        }
    }

    private void addWidth(char kind) {
        text.append(kind == 'p' ? 1 + dice.next(7) : dice.oneIn(2) ? 1 : 1 + dice.next(4));
        if (dice.oneIn(2)) {
            text.append(dice.signOf("<<<>=")).append(dice.oneIn(30) ? dice.next(1000) : 1 + dice.next(4));
        }
    }

    private char nameOf(List<Character> names) {
        return names.isEmpty() || dice.oneIn(40) ? dice.signOf("abcdefghijkl") : names.get(dice.next(names.size()));
    }

    private void addFields(int depth, List<Character> names, boolean whole) {
        List<Character> inner = new ArrayList<>(names);
        int many = depth == 5 ? 0 : depth == 1 ? 2 + dice.next(8) : dice.next(4);
        for (int k = 0; k < many && text.length() < 85; k++) {
            char name = dice.signOf(dice.oneIn(3) ? "abcdefghijkl" : "abc");
            text.append(name).append(':');
            if (dice.oneIn(3)) {
                text.append('p');
                addWidth('p');
                inner.add(name);
            } else if (whole && k == many - 1 && dice.oneIn(4)) {
                text.append('r');
            } else {
                int from = text.length();
                addType(depth + 1, inner, false);
                if ("uvs".indexOf(text.charAt(from)) >= 0) {
                    inner.add(name);
                }
            }
            text.append(';');
        }
        text.append('}');
    }

    private void addCases(int depth, List<Character> names) {
        text.append(nameOf(names)).append('{');
        int figure = dice.next(3);
        int many = 1 + dice.next(3);
        for (int k = 0; k < many; k++) {
            text.append(dice.oneIn(30) ? "0" + figure : "" + figure).append(':');
            addType(depth + 1, names, false);
            text.append(';');
            figure += dice.oneIn(30) ? 0 : 1 + dice.next(2);
        }
        text.append('}');
    }
}
