import java.util.ArrayDeque;
import java.util.Deque;

/** A condition by a stack of open parentheses, and by splitting it at its operators that bind least. */
final class SlowFormula {
    private SlowFormula() {
    }

    /** The first sign that can't stand there, or -1. */
    static int fault(String text) {
        Deque<Boolean> compared = new ArrayDeque<>();
        boolean comparedHere = false;
        boolean wantsThing = true;
        int digits = 0;
        for (int p = 0; p < text.length(); p++) {
            char c = text.charAt(p);
            if (p == 40) {
                return 40;
            }
            boolean digit = c >= '0' && c <= '9';
            if (wantsThing) {
                if (c == '(' && compared.size() < 4) {
                    compared.push(comparedHere);
                    comparedHere = false;
                } else if (digit || "kvrftli".indexOf(c) >= 0) {
                    wantsThing = false;
                    digits = digit ? 1 : 3;
                } else if (c != '-') {
                    return p;
                }
            } else if (digit && digits < 3) {
                digits++;
            } else if (c == ')' && !compared.isEmpty()) {
                comparedHere = compared.pop();
                digits = 3;
            } else if ("+-*/".indexOf(c) >= 0) {
                wantsThing = true;
            } else if ("<>=".indexOf(c) >= 0 && !comparedHere) {
                comparedHere = true;
                wantsThing = true;
            } else {
                return p;
            }
        }
        return wantsThing || !compared.isEmpty() ? text.length() : -1;
    }

    /** What a good condition is of a row. */
    static int value(String text, int[] row, int number) {
        String[] levels = {"<>=", "+-", "*/"};
        for (String operators : levels) {
            int p = lastOperator(text, operators);
            if (p >= 0) {
                int left = value(text.substring(0, p), row, number);
                int right = value(text.substring(p + 1), row, number);
                return apply(text.charAt(p), left, right);
            }
        }
        if (text.charAt(0) == '-') {
            return -value(text.substring(1), row, number);
        }
        if (text.charAt(0) == '(') {
            return value(text.substring(1, text.length() - 1), row, number);
        }
        return switch (text.charAt(0)) {
            case 'k' -> row[0];
            case 'v' -> row[1];
            case 'f' -> row[2];
            case 't' -> row[3];
            case 'r' -> row[4];
            case 'l' -> row[3] - row[2];
            case 'i' -> number;
            default -> Integer.parseInt(text);
        };
    }

    private static int apply(char operator, int left, int right) {
        return switch (operator) {
            case '<' -> left < right ? 1 : 0;
            case '>' -> left > right ? 1 : 0;
            case '=' -> left == right ? 1 : 0;
            case '+' -> left + right;
            case '-' -> left - right;
            case '*' -> left * right;
            default -> right == 0 ? 0 : (int) ((long) left / right);
        };
    }

    /** The last of some operators outside all parentheses that has a thing ahead of it. */
    private static int lastOperator(String text, String operators) {
        int depth = 0;
        int last = -1;
        for (int p = 0; p < text.length(); p++) {
            char c = text.charAt(p);
            depth += c == '(' ? 1 : c == ')' ? -1 : 0;
            boolean behindThing = p > 0 && "<>=+-*/(".indexOf(text.charAt(p - 1)) < 0;
            if (depth == 0 && behindThing && operators.indexOf(c) >= 0) {
                last = p;
            }
        }
        return last;
    }
}
