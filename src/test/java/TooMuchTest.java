/** Promise 6: 400 STEPS, 60 GOALS, 60 PAIRS, and not one more. */
public final class TooMuchTest {
    public static void main(String[] args) {
        steps();
        lastStepEnds();
        goals();
        goalsWithVariables();
        goalsAsleep();
        pairsOfSame();
        pairsOfGuards();
        nothingCanBeRun();
        Net.end();
    }

    private static void steps() {
        Net x = Net.of("l|l").question("l");
        for (int k = 0; k < 4; k++) {
            Net.due("a hundred", 0, () -> x.net.run(100));
        }
        Net.due("one more", Net.STATE, () -> x.net.run(1));
        Net.due("it isn't taken", "400 1 0 0 0 3", x.counts());
        x.question("l");
        for (int k = 0; k < 4; k++) {
            x.net.run(99);
        }
        Net.due("in the middle of a run", Net.STATE, () -> x.net.run(99));
        Net.due("400 were done", "400 1 0 0 0 3", x.counts());
    }

    private static void lastStepEnds() {
        // d(N) takes 2 N + 1 STEPS: itself and a reckoning for each, and the d(0).
        Net x = Net.of("d(N):0<N|M#N-1,d(M)", "d(0)", "f", "w(1)");
        x.question("d(99),d(99),f");
        Net.due("ends", "1", x.outcome());
        Net.due("STEPS", 399, x.net.count(3));
        x.question("d(99),d(99),f,f");
        Net.due("400 are allowed", "1", x.outcome());
        Net.due("STEPS", 400, x.net.count(3));
        Net.due("still ENDED", 1, () -> x.net.run(1));
        x.question("d(99),d(99),f,w(A)");
        Net.due("400 may STAND", "2", x.outcome());
        x.question("d(99),d(99),f,f,f");
        Net.due("401 aren't", Net.STATE, x.outcome());
        Net.due("STEPS", "400 3", x.net.count(3) + " " + x.net.count(8));
    }

    private static void goals() {
        Net x = Net.of("q|q,q,q", "r|r,q").question("q");
        Net.due("61", Net.STATE, () -> x.net.run(100));
        Net.due("60 are put", "30 60 0 0 0 3", x.counts());
        x.question("r^0,r");
        Net.due("61", Net.STATE, () -> x.net.run(100));
        Net.due("in all ROWS", "60 0", x.net.count(4) + " " + x.net.count(5));
        Net.due("LEVEL 0 is untouched", 1, x.net.count(10));
    }

    private static void goalsWithVariables() {
        Net x = Net.of("q(X)|q(Y),q(X),q(Z),q(W)").question("q(1)");
        Net.due("61", Net.STATE, () -> x.net.run(100));
        // 19 uses leave 58 GOALS; the 20th takes one and puts three of its four.
        Net.due("60 are put", "20 60", x.net.count(3) + " " + x.net.count(4));
    }

    private static void goalsAsleep() {
        Net x = Net.of("u(X)|w(Y),u(X)", "w(1)").question("u(1)");
        Net.due("a hundred", 0, () -> x.net.run(100));
        Net.due("fifty sleep", "100 1 50 50 50 1", x.counts());
        Net.due("61", Net.STATE, () -> x.net.run(100));
        Net.due("sleepers count", "119 1 59 60 59 3", x.counts());
    }

    private static void pairsOfSame() {
        Net x = new Net().question("X=f(X),Y=f(Y),X=Y");
        Net.due("no end", Net.STATE, x.outcome());
        Net.due("three STEPS", "3 0 0 2 0 3", x.counts());
        x.question("X=f(X),X=X");
        Net.due("no end on one TERM", Net.STATE, x.outcome());
        pairs("s(A,B)", "1", Net.STATE);
    }

    private static void pairsOfGuards() {
        pairs("g(A,B)", "1", Net.STATE);
        pairs("m(A,B)", "1", Net.STATE);
        pairs("h(A,B)", Net.FAILED, Net.STATE);
        Net x = Net.of("d(X,X,X)").question("A=c(B,B,B),B=c(D,D,D),D=c(E,E,E),d(A,A,A)");
        Net.due("40 PAIRS twice are allowed", "1", x.outcome());
    }

    /** The GOAL with lists of 60 and of 61 PAIRS. */
    private static void pairs(String goal, String dueAt60, String dueAt61) {
        String[] program = {"s(X,Y)|X=Y", "g(X,Y):X=Y", "m(X,X)", "h(X,Y):X~Y",
            "k(0,L)|L=n", "k(N,L):0<N|L=c(1,T),M#N-1,k(M,T)"};
        // A list of N has 2 N + 1 PAIRS; f around it one more.
        for (int many = 28; many <= 31; many++) {
            int pairs = 2 * many + 1;
            String lists = "k(" + many + ",A),k(" + many + ",B),";
            Net.due(goal + " with " + pairs + " PAIRS", pairs <= 60 ? dueAt60 : dueAt61,
                    Net.of(program).question(lists + goal + "^0").outcome());
        }
        Net.due(goal + " with 60 PAIRS", dueAt60,
                Net.of(program).question("k(29,C),A=f(C),k(29,D),B=f(D)," + goal + "^0")
                        .outcome());
    }

    private static void nothingCanBeRun() {
        Net x = Net.of("q|q,q,q").question("q");
        x.outcome();
        Net.due("never again", Net.STATE, () -> x.net.run(1));
        Net.due("bad comes before", Net.BAD, () -> x.net.run(0));
        Net.due("nothing is done", "30 60 0 0 0 3", x.counts());
        x.question("A=1");
        Net.due("another QUESTION can", "1", x.outcome());
    }
}
