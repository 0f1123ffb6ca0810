import java.util.function.ToLongFunction;

/**
 * "what throws changes nothing, but: add() and ask() empty the text (a QUESTION that was there
 * stays), and what a run() did before it FAILED stays."
 */
public final class EdgesOfThrowingTest {
    private static final String[] PROGRAM = {"w(1)", "q|q,q,q", "l|l", "f(X)|X=g(Y),w(Y),z"};
    private static final String[] QUESTIONS = {
        "", "w(A),l,B=f(A)", "A=1", "w(A),w(B)^3", "f(A)", "A=g(B),1=2", "w(A),q", "l"
    };

    public static void main(String[] args) {
        for (String question : QUESTIONS) {
            for (String text : new String[] {"", "a(1", "a".repeat(41), "a".repeat(48)}) {
                for (int clauses : new int[] {4, 11, 12}) {
                    others(question, text, clauses);
                    reading(question, text, clauses);
                }
            }
        }
        theTextItself();
        theRunsThatThrow();
        Net.end();
    }

    /** An object where the QUESTION has come as far as it comes in some STEPS. */
    private static Net made(String question, String text, int clauses) {
        Net x = Net.of(PROGRAM);
        for (int k = PROGRAM.length; k < clauses; k++) {
            x.text("y").net.add();
        }
        if (!question.isEmpty()) {
            x.question(question);
            Net.answerOf(() -> x.net.run(question.equals("l") ? 3 : 100));
        }
        return x.text(text);
    }

    private static void others(String question, String text, int clauses) {
        Net x = made(question, text, clauses);
        String before = x.all();
        boolean canBeRun = x.net.count(8) == 1;
        Stays stays = new Stays(question, text, clauses, before);
        stays.throwing(Net.BAD, y -> y.net.type(' '));
        stays.throwing(Net.BAD, y -> y.net.type(0x6161_6161_6161_617FL));
        stays.throwing(Net.BAD, y -> y.net.type(-1));
        if (text.length() > 40) {
            stays.throwing(Net.STATE, y -> y.net.type(Net.eight("aaaaaaaa")));
        }
        stays.throwing(Net.BAD, y -> y.drop(-1));
        stays.throwing(Net.BAD, y -> y.drop(clauses));
        stays.throwing(Net.BAD, y -> y.net.run(0));
        stays.throwing(Net.BAD, y -> y.net.run(101));
        if (!canBeRun) {
            stays.throwing(Net.STATE, y -> y.net.run(1));
            stays.throwing(Net.STATE, y -> y.net.run(100));
        }
        stays.throwing(Net.BAD, y -> y.net.letter(26, 0));
        stays.throwing(Net.NO_SUCH, y -> y.net.letter(25, 0));
        stays.throwing(Net.NO_SUCH, y -> y.net.letter(0, 80));
        stays.throwing(Net.BAD, y -> y.net.sleeping(-1));
        Net.due("count, letter and sleeping change nothing", before, x.all());
    }

    /** Makes the object anew for each call, as one is good for 512 calls. */
    private record Stays(String question, String text, int clauses, String before) {
        void throwing(String due, ToLongFunction<Net> call) {
            Net x = made(question, text, clauses);
            Net.due("throws", due, () -> call.applyAsLong(x));
            Net.due("nothing is changed", before, x.all());
        }
    }

    private static void reading(String question, String text, int clauses) {
        int place = text.isEmpty() ? 0 : text.startsWith("aa") ? 1 : 3;
        Net x = made(question, text, clauses);
        String before = x.all();
        Net.due("ask", Net.BAD, () -> x.net.ask());
        Net.due("only the text is empty", changed(before, place), x.all());
        Net y = made(question, text, clauses);
        Net.due("add", clauses < 12 ? Net.BAD : Net.STATE, () -> y.net.add());
        Net.due("only the text is empty", changed(before, clauses < 12 ? place : -1), y.all());
    }

    /** The same, with this PLACE and no text. */
    private static String changed(String before, int place) {
        String[] words = before.split(" ");
        words[1] = Integer.toString(place);
        words[2] = "0";
        return String.join(" ", words);
    }

    /** Of the text more stays than its length. */
    private static void theTextItself() {
        Net x = new Net().text("A=f(12,B");
        Net.due("bad", Net.BAD, () -> x.net.type(Net.eight("345678 ")));
        Net.due("bad", Net.BAD, () -> x.drop(0));
        Net.due("no QUESTION", Net.STATE, () -> x.net.run(1));
        Net.due("no QUESTION", Net.NO_SUCH, () -> x.net.letter(0, 0));
        x.text(",c)");
        Net.due("ask", 1, () -> x.net.ask());
        Net.due("run", 1, () -> x.net.run(1));
        Net.due("as it was typed", "f(12,_,c)", x.shows('A'));
    }

    /** FAILED and TOO MUCH: what was done stays, and that it can't be run is new. */
    private static void theRunsThatThrow() {
        Net x = Net.of(PROGRAM).question("w(B),f(A),l^0");
        Net.due("FAILED", Net.FAILED, () -> x.net.run(100));
        Net.due("what it did stays", "counts -1 0 4 5 1 2 3 2 2 -1 1 0 0 0"
                + " A=g(_) with 0 B=_ with 1", x.all());
        Net y = Net.of(PROGRAM).question("w(B),A=g(B),C=f(C),C=C,l^0");
        Net.due("TOO MUCH", Net.STATE, () -> y.net.run(100));
        Net.due("what it did stays", "counts -1 0 4 4 1 1 3 1 3 -1 1 0 0 0"
                + " A=g(_) with 0 B=_ with 1 C=" + "f(".repeat(40) + " with 0", y.all());
    }
}
