import java.util.ArrayDeque;
import java.util.Deque;

/** TEXTS told another way: faults by a scan with a stack, values by cutting the text apart. */
final class TextModel {
    private static final String NAMES = "tgpcsn";

    private TextModel() {
    }

    /** The FAULT, or -1. */
    static int fault(String text) {
        Deque<int[]> frames = new ArrayDeque<>();
        boolean want = true;
        boolean compared = false;
        boolean asked = false;
        int ahead = 0;
        int open = 0;
        int digits = 9;
        for (int i = 0; i < text.length(); i++) {
            char c = text.charAt(i);
            boolean digit = c >= '0' && c <= '9';
            if (want) {
                if (digit || NAMES.indexOf(c) >= 0) {
                    digits = digit ? 1 : 9;
                    want = false;
                    open -= ahead;
                    ahead = 0;
                } else if ((c == '!' || c == '-' || c == '(') && open < 6) {
                    open++;
                    if (c == '(') {
                        frames.push(new int[] {compared ? 1 : 0, ahead});
                        compared = false;
                        ahead = 0;
                    } else {
                        ahead++;
                    }
                } else {
                    return i;
                }
                continue;
            }
            if (digit && digits < 4) {
                digits++;
            } else if (c == ')' && !frames.isEmpty()) {
                int[] frame = frames.pop();
                compared = frame[0] == 1;
                open -= 1 + frame[1];
                digits = 9;
            } else if ("+-*/%".indexOf(c) >= 0) {
                want = true;
            } else if ("<=>".indexOf(c) >= 0 && !compared) {
                compared = true;
                want = true;
            } else if (c == '&' || c == '|') {
                compared = false;
                want = true;
            } else if (c == '?' && frames.isEmpty() && !asked) {
                asked = true;
                compared = false;
                want = true;
            } else if (c == ';' && frames.isEmpty()) {
                asked = false;
                compared = false;
                want = true;
            } else {
                return i;
            }
        }
        return want || !frames.isEmpty() ? text.length() : -1;
    }

    /** The value of a TEXT without FAULT; the names in the order t g p c s n. */
    static int value(String text, int... names) {
        for (String line : text.split(";")) {
            String[] parts = line.split("\\?");
            if (parts.length == 1) {
                return expression(parts[0], names);
            }
            if (expression(parts[0], names) != 0) {
                return expression(parts[1], names);
            }
        }
        return 0;
    }

    private static int expression(String e, int[] names) {
        for (String operators : new String[] {"|", "&", "<=>", "+-", "*/%"}) {
            int cut = lastCut(e, operators);
            if (cut > 0) {
                int left = expression(e.substring(0, cut), names);
                int right = expression(e.substring(cut + 1), names);
                return joined(e.charAt(cut), left, right);
            }
        }
        char c = e.charAt(0);
        if (c == '(') {
            return expression(e.substring(1, e.length() - 1), names);
        }
        if (c == '!') {
            return expression(e.substring(1), names) == 0 ? 1 : 0;
        }
        if (c == '-') {
            return -expression(e.substring(1), names);
        }
        return NAMES.indexOf(c) >= 0 ? names[NAMES.indexOf(c)] : Integer.parseInt(e);
    }

    /** The last of these operators outside brackets that stands behind an operand. */
    private static int lastCut(String e, String operators) {
        int depth = 0;
        for (int i = e.length() - 1; i > 0; i--) {
            char c = e.charAt(i);
            if (c == ')') {
                depth++;
            } else if (c == '(') {
                depth--;
            } else if (depth == 0 && operators.indexOf(c) >= 0 && endsOperand(e.charAt(i - 1))) {
                return i;
            }
        }
        return -1;
    }

    private static boolean endsOperand(char c) {
        return c == ')' || (c >= '0' && c <= '9') || NAMES.indexOf(c) >= 0;
    }

    private static int joined(char op, int a, int b) {
        return switch (op) {
            case '|' -> (a != 0 | b != 0) ? 1 : 0;
            case '&' -> (a != 0 & b != 0) ? 1 : 0;
            case '<' -> a < b ? 1 : 0;
            case '=' -> a == b ? 1 : 0;
            case '>' -> a > b ? 1 : 0;
            case '+' -> a + b;
            case '-' -> a - b;
            case '*' -> a * b;
            case '/' -> b == 0 ? 0 : (int) ((long) a / b);
            default -> b == 0 ? 0 : (int) ((long) a % b);
        };
    }
}
