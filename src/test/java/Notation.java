import java.util.ArrayList;
import java.util.List;

/** How numbers are written in the runs under src/test/sentences. */
final class Notation {
    private Notation() {
    }

    /**
     * 12, -1, MIN, MAX, true, false, 0b101 (a set of changes), {ab} (a set of members), Ab (member b of
     * class A), mix(..) (a fingerprint of these numbers), or one sign for its code.
     */
    static long number(String text) {
        if (text.matches("-?\\d+")) {
            return Long.parseLong(text);
        }
        if (text.startsWith("0b")) {
            return Long.parseLong(text.substring(2), 2);
        }
        if (text.startsWith("mix(")) {
            return mixed(text.substring(4, text.length() - 1));
        }
        if (text.matches("\\{[a-z]*\\}")) {
            return set(text.substring(1, text.length() - 1));
        }
        if (text.matches("[A-Z][a-z]")) {
            return 256L * text.charAt(0) + text.charAt(1);
        }
        if (text.length() == 1) {
            return text.charAt(0);
        }
        return word(text);
    }

    private static long word(String text) {
        return switch (text) {
            case "MIN" -> Integer.MIN_VALUE;
            case "MAX" -> Integer.MAX_VALUE;
            case "true" -> 1;
            case "false" -> 0;
            default -> throw new IllegalArgumentException("what number is " + text);
        };
    }

    private static long set(String names) {
        long bits = 0;
        for (char name : names.toCharArray()) {
            bits |= 1L << name - 'a';
        }
        return bits;
    }

    private static long mixed(String numbers) {
        long print = 43;
        for (String part : numbers.split(" ")) {
            print = 31 * print + number(part);
        }
        return print;
    }

    /** All numbers that are meant by an argument such as -1|2|MAX or A..L. */
    static List<Long> choices(String text) {
        List<Long> found = new ArrayList<>();
        for (String part : text.split("\\|")) {
            String[] ends = part.split("\\.\\.");
            for (long value = number(ends[0]); value <= number(ends[ends.length - 1]); value++) {
                found.add(value);
            }
        }
        return found;
    }
}
