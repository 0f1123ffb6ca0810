/** Promise 8: sleeping. */
public final class EdgesOfSleepingTest {
    public static void main(String[] args) {
        whichVariable();
        howMany();
        upToSixty();
        whatItStandsFor();
        noVariable();
        withoutQuestion();
        isNotInIt();
        whenItCannotBeRun();
        Net.end();
    }

    /** "the VARIABLE v": 0 A .. 25 Z */
    private static void whichVariable() {
        Net x = Net.of("w(1)");
        int[] wrong = {-1, -2, 26, 27, 'A', 'Z', Integer.MIN_VALUE, Integer.MAX_VALUE};
        for (int v : wrong) {
            Net.due("bad before without QUESTION", Net.BAD, () -> x.net.sleeping(v));
        }
        x.question("w(A),w(Z),w(Z)").outcome();
        for (int v : wrong) {
            Net.due("sleeping(" + v + ")", Net.BAD, () -> x.net.sleeping(v));
        }
        Net.due("A", 1, () -> x.net.sleeping(0));
        Net.due("B", -1, () -> x.net.sleeping(1));
        Net.due("Y", -1, () -> x.net.sleeping(24));
        Net.due("Z", 2, () -> x.net.sleeping(25));
    }

    /** "How many GOALS sleep on" it: none, one, more; not yet, and no more. */
    private static void howMany() {
        Net x = Net.of("w(1)").question("w(A),w(A),A=1");
        String[] due = {"0", "1", "2", "0", "0", "0"};
        for (int k = 0; k < due.length; k++) {
            Net.due("after " + k + " STEPS", due[k], x.sleepers('A'));
            x.net.run(1);
        }
        x.question("A#A+A,B#A+1,C#1+A");
        Net.due("STANDS", "2", x.outcome());
        Net.due("RECKONINGS, too", 3, x.sleepers('A'));
        x.question("w(A),w(f(A)),w(B)");
        Net.due("FAILED", Net.FAILED, x.outcome());
        Net.due("only what sleeps", "1 0", x.sleepers('A') + " " + x.sleepers('B'));
    }

    private static void upToSixty() {
        Net x = Net.of("t(N,X):0<N|w(X),M#N-1,t(M,X)", "t(0,X)|w(X),w(X)", "w(1)")
                .question("t(58,A)");
        Net.due("STANDS", "2", x.outcome());
        Net.due("all that can be", 60, x.sleepers('A'));
    }

    /** "sleep on what the VARIABLE v of the QUESTION stands for" */
    private static void whatItStandsFor() {
        Net x = Net.of("w(1)", "p(X)|w(Y),X=f(Y)").question("w(A),w(B),A=B,w(C)");
        Net.due("STANDS", "2", x.outcome());
        Net.due("A and B are one", "2 2 1",
                x.sleepers('A') + " " + x.sleepers('B') + " " + x.sleepers('C'));
        x.question("p(A),A=f(B)");
        Net.due("STANDS", "2", x.outcome());
        Net.due("B is a CLAUSE's", "0 1", x.sleepers('A') + " " + x.sleepers('B'));
    }

    /** "0 if that's no VARIABLE" */
    private static void noVariable() {
        Net x = Net.of("w(1)").question("w(D),A=1,B=b,C=f(D)");
        Net.due("STANDS", "2", x.outcome());
        Net.due("a NUMBER, a letter, with a VARIABLE within", "0 0 0 1", x.sleepers('A') + " "
                + x.sleepers('B') + " " + x.sleepers('C') + " " + x.sleepers('D'));
    }

    /** "-1 without QUESTION" */
    private static void withoutQuestion() {
        Net x = Net.of("w(1)");
        for (int v = 0; v < 26; v++) {
            int variable = v;
            Net.due("sleeping(" + v + ")", -1, () -> x.net.sleeping(variable));
        }
        x.text("w(A),");
        Net.due("bad", Net.BAD, () -> x.net.ask());
        Net.due("still none", -1, () -> x.net.sleeping(0));
        x.question("w(A)");
        Net.due("there is one", 0, () -> x.net.sleeping(0));
    }

    /** "or if it isn't in it" */
    private static void isNotInIt() {
        Net x = Net.of("w(1)", "p(X)|w(X),w(Y)").question("p(B)");
        Net.due("STANDS", "2", x.outcome());
        Net.due("A", -1, x.sleepers('A'));
        Net.due("B", 1, x.sleepers('B'));
        Net.due("C", -1, x.sleepers('C'));
        Net.due("a CLAUSE's", "-1 -1", x.sleepers('X') + " " + x.sleepers('Y'));
        x.question("w(1)");
        Net.due("of the QUESTION before", -1, x.sleepers('B'));
    }

    private static void whenItCannotBeRun() {
        Net x = Net.of("w(1)", "q|q,q,q").question("w(A),1=2");
        Net.due("FAILED", Net.FAILED, x.outcome());
        Net.due("it sleeps on", 1, x.sleepers('A'));
        x.question("w(A),q");
        Net.due("TOO MUCH", Net.STATE, x.outcome());
        Net.due("it sleeps on", 1, x.sleepers('A'));
    }
}
