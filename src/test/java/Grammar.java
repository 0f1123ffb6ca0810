import java.util.regex.Matcher;
import java.util.regex.Pattern;

/**
 * What is right to read, as a pattern, which can tell of any beginning whether something
 * right could begin so.
 */
final class Grammar {
    static final Grammar CLAUSE = new Grammar(clause());
    static final Grammar QUESTION = new Grammar(goals());

    private final Matcher matcher;

    private Grammar(String pattern) {
        matcher = Pattern.compile(pattern).matcher("");
    }

    boolean isRight(String text) {
        return matcher.reset(text).matches();
    }

    /** THE PLACE of a text that isn't right. */
    int place(String text) {
        // Whatever begins something right has only such beginnings itself.
        int good = 0;
        int bad = text.length() + 1;
        while (good + 1 < bad) {
            int size = (good + bad) / 2;
            if (isRight(text.substring(0, size)) || matcher.hitEnd()) {
                good = size;
            } else {
                bad = size;
            }
        }
        return good;
    }

    private static String term(int depth) {
        if (depth == 5) {
            return "(?:[A-Z]|[0-9][0-9]?|[a-z])";
        }
        String part = term(depth + 1);
        String parts = "\\(" + part + "(?:," + part + "(?:," + part + ")?)?\\)";
        return "(?:[A-Z]|[0-9][0-9]?|[a-z](?:" + parts + ")?)";
    }

    private static String call() {
        String part = term(2);
        return "[a-z](?:\\(" + part + "(?:," + part + "(?:," + part + ")?)?\\))?";
    }

    private static String goals() {
        String goal = "(?:" + term(1) + "=" + term(1)
                + "|[A-Z]#" + term(1) + "[-+*]" + term(1)
                + "|" + call() + "(?:\\^[0-3])?)";
        return goal + "(?:," + goal + ")*";
    }

    private static String clause() {
        String guard = term(1) + "[<=~]" + term(1);
        return call() + "(?::" + guard + "(?:," + guard + ")*)?(?:\\|" + goals() + ")?";
    }
}
