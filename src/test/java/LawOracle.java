import java.util.HashMap;
import java.util.Map;

/** TEXTS told by the grammar alone, span by span: another way than the program's reader. */
final class LawOracle {
    private static final String LEVELS = "EABSPO";
    /** Lines asked before, so that what is known of their spans is kept. */
    private static final Map<String, LawOracle> LINES = new HashMap<>();
    private final String text;
    private final Map<String, Boolean> known = new HashMap<>();

    LawOracle(String text) {
        this.text = text;
    }

    /** -1, or the place of the FAULT. */
    static int fault(String text) {
        for (int n = 1; n <= text.length(); n++) {
            if (!goesOn(text.substring(0, n))) {
                return n - 1;
            }
        }
        return new LawOracle(text).isText(0, text.length()) ? -1 : text.length();
    }

    private static boolean goesOn(String start) {
        for (String operand : new String[] {"", "1"}) {
            for (int closing = 0; closing <= 6; closing++) {
                String whole = start + operand + ")".repeat(closing);
                if (new LawOracle(whole).isText(0, whole.length())) {
                    return true;
                }
            }
        }
        return false;
    }

    private boolean isText(int i, int j) {
        if (isLine(i, j)) {
            return true;
        }
        for (int k = i; k < j; k++) {
            if (text.charAt(k) == ';' && isLine(i, k) && isText(k + 1, j)) {
                return true;
            }
        }
        return false;
    }

    private boolean isLine(int i, int j) {
        return is(0, i, j, 0) || question(i, j) >= 0;
    }

    private int question(int i, int j) {
        for (int k = i; k < j; k++) {
            if (text.charAt(k) == '?' && is(0, i, k, 0) && is(0, k + 1, j, 0)) {
                return k;
            }
        }
        return -1;
    }

    private static String signs(int level) {
        return new String[] {"|", "&", "<=>", "+-", "*/%"}[level];
    }

    private boolean is(int level, int i, int j, int open) {
        if (i >= j) {
            return false;
        }
        String key = LEVELS.charAt(level) + "," + i + "," + j + "," + open;
        Boolean before = known.get(key);
        if (before == null) {
            before = level == 5 ? isOperand(i, j, open) : is(level + 1, i, j, open) || sign(level, i, j, open) >= 0;
            known.put(key, before);
        }
        return before;
    }

    /** Where the last sign of this level stands, if the span is joined by one. */
    private int sign(int level, int i, int j, int open) {
        for (int k = j - 1; k > i; k--) {
            if (signs(level).indexOf(text.charAt(k)) >= 0
                    && is(level == 2 ? 3 : level, i, k, open) && is(level + 1, k + 1, j, open)) {
                return k;
            }
        }
        return -1;
    }

    private boolean isOperand(int i, int j, int open) {
        String part = text.substring(i, j);
        if (part.matches("[0-9]{1,4}|[clgkdb]")) {
            return true;
        }
        char first = text.charAt(i);
        if (open >= 6) {
            return false;
        }
        if (first == '!' || first == '-') {
            return is(5, i + 1, j, open + 1);
        }
        return first == '(' && text.charAt(j - 1) == ')' && is(0, i + 1, j - 1, open + 1);
    }

    /** What a TEXT gives; names in the order c l g k d b. */
    static int value(String text, int[] names) {
        for (String line : text.split(";")) {
            LawOracle one = LINES.computeIfAbsent(line, LawOracle::new);
            int question = one.question(0, line.length());
            if (question < 0) {
                return one.worth(0, 0, line.length(), 0, names);
            }
            if (one.worth(0, 0, question, 0, names) != 0) {
                return one.worth(0, question + 1, line.length(), 0, names);
            }
        }
        return 0;
    }

    private int worth(int level, int i, int j, int open, int[] names) {
        if (level == 5) {
            return operandWorth(i, j, open, names);
        }
        if (is(level + 1, i, j, open)) {
            return worth(level + 1, i, j, open, names);
        }
        int k = sign(level, i, j, open);
        int a = worth(level == 2 ? 3 : level, i, k, open, names);
        int b = worth(level + 1, k + 1, j, open, names);
        return switch (text.charAt(k)) {
            case '|' -> (a == 0 ? 0 : 1) | (b == 0 ? 0 : 1);
            case '&' -> (a == 0 ? 0 : 1) & (b == 0 ? 0 : 1);
            case '<' -> a < b ? 1 : 0;
            case '=' -> a == b ? 1 : 0;
            case '>' -> a > b ? 1 : 0;
            case '+' -> a + b;
            case '-' -> a - b;
            case '*' -> a * b;
            case '/' -> b == 0 ? 0 : a / b;
            default -> b == 0 ? 0 : a % b;
        };
    }

    private int operandWorth(int i, int j, int open, int[] names) {
        char first = text.charAt(i);
        int name = "clgkdb".indexOf(first);
        if (name >= 0) {
            return names[name];
        }
        return switch (first) {
            case '!' -> worth(5, i + 1, j, open + 1, names) == 0 ? 1 : 0;
            case '-' -> -worth(5, i + 1, j, open + 1, names);
            case '(' -> worth(0, i + 1, j - 1, open + 1, names);
            default -> Integer.parseInt(text.substring(i, j));
        };
    }
}
