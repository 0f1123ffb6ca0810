/** Promise 1, and how long an object is good. */
public final class EdgesOfNewObjectTest {
    public static void main(String[] args) {
        noClauses();
        noQuestion();
        oneOfEach();
        fiveHundredAndTwelve();
        Net.end();
    }

    /** "No CLAUSES" */
    private static void noClauses() {
        Net x = new Net();
        Net.due("none", 0, x.net.count(2));
        Net.due("none to drop", Net.BAD, () -> x.drop(0));
        Net.due("none to take", Net.FAILED, x.question("a").outcome());
        Net.due("the first to come", 1, () -> x.text("a").net.add());
    }

    /** "no QUESTION." */
    private static void noQuestion() {
        Net x = new Net();
        Net.due("all", "counts -1 0 0 0 0 0 0 0 0 -1 0 0 0 0", x.all());
        Net.due("run", Net.STATE, () -> x.net.run(1));
        Net.due("run", Net.STATE, () -> x.net.run(100));
        for (int v = 0; v < 26; v++) {
            int variable = v;
            Net.due("letter " + v, Net.NO_SUCH, () -> x.net.letter(variable, -1));
            Net.due("letter " + v, Net.NO_SUCH, () -> x.net.letter(variable, 0));
            Net.due("sleeping " + v, -1, () -> x.net.sleeping(variable));
        }
        Net.due("nothing came of it", "counts -1 0 0 0 0 0 0 0 0 -1 0 0 0 0", x.all());
    }

    /** One step on: a CLAUSE is no QUESTION, and a QUESTION no CLAUSE. */
    private static void oneOfEach() {
        Net.due("a CLAUSE", "counts -1 0 1 0 0 0 0 0 0 -1 0 0 0 0", Net.of("a").all());
        Net.due("a QUESTION", "counts -1 0 0 0 1 0 0 0 1 -1 0 1 0 0",
                new Net().question("a").all());
        Net.due("a text", "counts -1 1 0 0 0 0 0 0 0 -1 0 0 0 0", new Net().text("a").all());
    }

    /** "An object is used for at most 512 calls after it has been made" */
    private static void fiveHundredAndTwelve() {
        GuardNet net = new GuardNet();
        int calls = 0;
        for (int k = 0; k < 84; k++) {
            net.type(Net.eight("l(X)|l(X"));
            net.type(')');
            Net.due("add, call " + (calls + 3), 1, () -> net.add());
            net.type(Net.eight("l(A)"));
            net.ask();
            net.drop(0);
            calls += 6;
        }
        net.type(Net.eight("l(X)|l(X"));
        net.type(')');
        net.add();
        for (int k = 0; k < 4; k++) {
            Net.due("run", 0, () -> net.run(100));
        }
        calls += 7;
        Net.due("calls", 511, calls);
        Net.due("the last call", Net.STATE, () -> net.run(1));
    }
}
