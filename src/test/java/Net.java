/** What the tests share: a GuardNet with texts for longs, and a tally of wrong answers. */
final class Net {
    static final String BAD = "IllegalArgumentException";
    static final String STATE = "IllegalStateException";
    static final String FAILED = "UnsupportedOperationException";
    static final String NO_SUCH = "NoSuchElementException";

    private static int checked = 0;
    private static int wrong = 0;

    final GuardNet net = new GuardNet();

    interface Call {
        long answer();
    }

    /** A new object with these CLAUSES. */
    static Net of(String... clauses) {
        Net made = new Net();
        for (String clause : clauses) {
            made.text(clause).net.add();
        }
        return made;
    }

    /** At most eight characters as the long that type() takes. */
    static long eight(String characters) {
        long eight = 0;
        for (int k = 0; k < characters.length(); k++) {
            eight = eight << 8 | characters.charAt(k) & 255;
        }
        return eight;
    }

    Net text(String text) {
        for (int k = 0; k < text.length(); k += 8) {
            net.type(eight(text.substring(k, Math.min(k + 8, text.length()))));
        }
        return this;
    }

    Net question(String text) {
        text(text).net.ask();
        return this;
    }

    /** How a new object reads the text as a CLAUSE: add()'s answer, or where it's bad. */
    static String asClause(String text) {
        Net x = new Net().text(text);
        return x.placeIfBad(answerOf(() -> x.net.add()));
    }

    /** How a new object reads the text as a QUESTION: ask()'s answer, or where it's bad. */
    static String asQuestion(String text) {
        Net x = new Net().text(text);
        return x.placeIfBad(answerOf(() -> x.net.ask()));
    }

    private String placeIfBad(String answer) {
        return answer.equals(BAD) ? "bad at " + net.count(0) : answer;
    }

    /** Runs until nothing is left to do; what ended it, or the exception's name. */
    String outcome() {
        for (int k = 0; k < 10; k++) {
            String answer = answerOf(() -> net.run(100));
            if (!answer.equals("0")) {
                return answer;
            }
        }
        return "0";
    }

    /** What a VARIABLE of the QUESTION stands for. */
    String shows(char variable) {
        StringBuilder text = new StringBuilder();
        int size = net.letter(variable - 'A', -1);
        for (int k = 0; k < size; k++) {
            text.append((char) net.letter(variable - 'A', k));
        }
        return text.toString();
    }

    int sleepers(char variable) {
        return net.sleeping(variable - 'A');
    }

    /** count(3) to count(8): STEPS, in ROWS, asleep, VARIABLES, sleeps, state. */
    String counts() {
        StringBuilder text = new StringBuilder();
        for (int what = 3; what <= 8; what++) {
            text.append(what == 3 ? "" : " ").append(net.count(what));
        }
        return text.toString();
    }

    /** The ROWS' sizes, LEVEL 0 first. */
    String rows() {
        StringBuilder text = new StringBuilder();
        for (int level = 0; level < 4; level++) {
            text.append(level == 0 ? "" : " ").append(net.count(10 + level));
        }
        return text.toString();
    }

    /** All that can be asked without a change: each count, VARIABLE and sleeper. */
    String all() {
        StringBuilder text = new StringBuilder("counts");
        for (int what = 0; what <= 13; what++) {
            text.append(' ').append(net.count(what));
        }
        for (char variable = 'A'; variable <= 'Z'; variable++) {
            int sleepers = sleepers(variable);
            if (sleepers >= 0) {
                text.append(' ').append(variable).append('=').append(shows(variable));
                text.append(" with ").append(sleepers);
            }
        }
        return text.toString();
    }

    long drop(int i) {
        net.drop(i);
        return 0;
    }

    static String answerOf(Call call) {
        try {
            return Long.toString(call.answer());
        } catch (RuntimeException thrown) {
            return thrown.getClass().getSimpleName();
        }
    }

    static void due(String what, Object due, Object got) {
        checked++;
        if (!due.toString().equals(got.toString())) {
            wrong++;
            System.out.println(what + ": answered " + got + ", due is " + due);
        }
    }

    static void due(String what, Object due, Call call) {
        due(what, due, answerOf(call));
    }

    static void end() {
        System.out.println(checked + " answers looked at, " + wrong + " wrong");
        if (wrong != 0 || checked == 0) {
            System.exit(1);
        }
    }
}
