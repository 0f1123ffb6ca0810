/** Promise 5: ask. */
public final class EdgesOfAskTest {
    public static void main(String[] args) {
        howMany();
        emptyThen();
        emptyIfBad();
        inPlaceOfTheOneBefore();
        unlessItIsBad();
        badAfterAnEnd();
        badBeforeAny();
        standInTheRows();
        Net.end();
    }

    /** "its GOALS stand in the ROWS. Answers how many." */
    private static void howMany() {
        for (int goals = 1; goals <= 24; goals++) {
            Net x = new Net().text("a,".repeat(goals - 1) + "a");
            Net.due("GOALS", goals, () -> x.net.ask());
            Net.due("in ROWS", goals, x.net.count(4));
        }
        Net.due("none", "bad at 0", Net.asQuestion(""));
    }

    /** "The text, empty then" */
    private static void emptyThen() {
        Net x = new Net().question("a");
        Net.due("empty", 0, x.net.count(1));
        Net.due("nothing to read", Net.BAD, () -> x.net.ask());
        Net.due("THE PLACE", 0, x.net.count(0));
    }

    /** "empty then also if it's bad" */
    private static void emptyIfBad() {
        Net x = new Net().text("a(");
        Net.due("bad", Net.BAD, () -> x.net.ask());
        Net.due("empty", 0, x.net.count(1));
        Net.due("a new text begins", 1, () -> x.net.type('b'));
        Net.due("and is right", 1, () -> x.net.ask());
    }

    /** "which is in place of the one before" */
    private static void inPlaceOfTheOneBefore() {
        String[] before = {"a", "w(A),w(B)", "A=1,B=2", "1=2", "l", "q", "A=f(A)"};
        for (String question : before) {
            Net x = Net.of("w(1)", "l|l", "q|q,q,q").question(question);
            x.outcome();
            x.question("w(C)^3,w(C)");
            Net.due("after " + question, "counts -1 0 3 0 2 0 1 0 1 -1 0 1 0 1 C=_ with 0",
                    x.all());
            Net.due("STANDS", "2", x.outcome());
            Net.due("after that", "counts -1 0 3 2 0 2 1 2 1 -1 0 0 0 0 C=_ with 2", x.all());
        }
        Net x = Net.of("w(1)").question("w(A),w(A)");
        x.net.run(1);
        x.question("w(A),A=1");
        Net.due("in the midst of one", "counts -1 0 1 0 2 0 1 0 1 -1 0 2 0 0 A=_ with 0", x.all());
        Net.due("ENDS, nobody old wakes", "1", x.outcome());
        Net.due("STEPS", 3, x.net.count(3));
    }

    /** "unless it's bad": the one before goes on as if nothing had been asked. */
    private static void unlessItIsBad() {
        Net x = Net.of("w(1)").question("w(A),w(B),A=1");
        for (int k = 0; k < 4; k++) {
            int steps = k;
            x.text("w(C),A");
            Net.due("bad", Net.BAD, () -> x.net.ask());
            Net.due("STEPS", steps, x.net.count(3));
            Net.due("C isn't in it", -1, x.sleepers('C'));
            Net.due("goes on", k < 3 ? 0 : 2, () -> x.net.run(1));
        }
        Net.due("all", "counts 6 0 1 4 0 1 2 2 1 -1 0 0 0 0 A=1 with 0 B=_ with 1", x.all());
    }

    /** The same, when the one before can't be run any more. */
    private static void badAfterAnEnd() {
        String[] questions = {"1=2", "q", "A=1", "w(A)"};
        String[] dues = {Net.STATE, Net.STATE, "1", "2"};
        for (int k = 0; k < questions.length; k++) {
            Net x = Net.of("w(1)", "q|q,q,q").question(questions[k]);
            x.outcome();
            int state = x.net.count(8);
            x.text("a^4");
            Net.due("bad", Net.BAD, () -> x.net.ask());
            Net.due("after " + questions[k], state, x.net.count(8));
            Net.due("run", dues[k], () -> x.net.run(1));
        }
    }

    private static void badBeforeAny() {
        Net x = new Net().text("A");
        Net.due("bad", Net.BAD, () -> x.net.ask());
        Net.due("still none", "counts 1 0 0 0 0 0 0 0 0 -1 0 0 0 0", x.all());
        Net.due("nothing to run", Net.STATE, () -> x.net.run(1));
    }

    /** "a CALL without ^ gets the LEVEL .. (of a QUESTION: 1), others, too" */
    private static void standInTheRows() {
        Net x = new Net().question("a,b^0,c^1,d^2,e^3,A=1,B#1+1");
        Net.due("ROWS", "1 4 1 1", x.rows());
        Net.due("all", 7, x.net.count(4));
    }
}
