/** Promise 6: STEPS of the GOALS that a QUESTION brought in. */
public final class RunTest {
    public static void main(String[] args) {
        arguments();
        answers();
        rows();
        levels();
        matching();
        metBefore();
        less();
        alike();
        guardsInOrder();
        unmetInGuard();
        firstThatSucceeds();
        Net.end();
    }

    private static void arguments() {
        Net x = new Net();
        Net.due("bad comes before no QUESTION", Net.BAD, () -> x.net.run(0));
        Net.due("no QUESTION", Net.STATE, () -> x.net.run(1));
        x.question("a");
        for (int n : new int[] {0, -1, 101, Integer.MAX_VALUE, Integer.MIN_VALUE}) {
            Net.due("run(" + n + ")", Net.BAD, () -> x.net.run(n));
        }
        Net.due("nothing is changed", "0 1 0 0 0 1", x.counts());
        Net.due("no CLAUSE", Net.FAILED, () -> x.net.run(100));
        Net.due("it FAILED before", Net.STATE, () -> x.net.run(1));
        Net.due("bad comes before FAILED", Net.BAD, () -> x.net.run(101));
        Net.due("the GOAL is gone", "1 0 0 0 0 2", x.counts());
    }

    private static void answers() {
        Net x = Net.of("a|b,c", "b", "c", "w(1)").question("a");
        Net.due("more", 0, () -> x.net.run(1));
        Net.due("more", 0, () -> x.net.run(1));
        Net.due("ENDED with the last STEP", 1, () -> x.net.run(1));
        Net.due("still ENDED", 1, () -> x.net.run(100));
        Net.due("no STEP more", "3 0 0 0 0 1", x.counts());
        x.question("w(A),b");
        Net.due("more", 0, () -> x.net.run(1));
        Net.due("STANDS", 2, () -> x.net.run(1));
        Net.due("still STANDS", 2, () -> x.net.run(100));
        Net.due("it can be run", "2 0 1 1 1 1", x.counts());
    }

    private static void rows() {
        Net x = Net.of("a|p(1)", "b|p(2)", "p(N)").question("a,b,X=1,X=2");
        Net.due("GOALS come at the end", Net.FAILED, x.outcome());
        Net.due("after four STEPS", "4 2 0 1 0 2", x.counts());
    }

    private static void levels() {
        Net x = Net.of("a|b,c^0,X=1,Y#1+2", "b", "c").question("a^2,b^3,c");
        Net.due("as asked", "0 1 1 1", x.rows());
        x.net.run(1);
        Net.due("the highest first", "0 1 1 0", x.rows());
        x.net.run(1);
        Net.due("the LEVEL of the CALL but for ^", "1 1 3 0", x.rows());
        Net.due("ends", "1", x.outcome());
        Net w = Net.of("w(1)").question("w(A)^3,A=1");
        w.net.run(2);
        Net.due("a sleeper wakes at its LEVEL", "0 0 0 1", w.rows());
    }

    private static void matching() {
        runs("a number", "1", "a(1)", "a(1)");
        runs("two digits", "1", "a(07)", "a(7)");
        runs("another number", Net.FAILED, "a(1)", "a(2)");
        runs("a letter for a number", Net.FAILED, "a(1)", "a(b)");
        runs("a number for a letter", Net.FAILED, "a(b)", "a(1)");
        runs("a letter", "1", "a(b)", "a(b)");
        runs("another letter", Net.FAILED, "a(b)", "a(c)");
        runs("more ARGUMENTS", Net.FAILED, "a(b)", "a(b(1))");
        runs("fewer ARGUMENTS", Net.FAILED, "a(b(1))", "a(b)");
        runs("a CALL with more ARGUMENTS", Net.FAILED, "a(X)", "a(1,2)");
        runs("a CALL without", Net.FAILED, "a(X)", "a");
        runs("within", "1", "a(b(c(1),d))", "a(b(c(1),d))");
        runs("within, wrong", Net.FAILED, "a(b(c(1),d))", "a(b(c(2),d))");
        Net x = Net.of("a(f(1),g(2))").question("a(A,B)");
        Net.due("waits", "2", x.outcome());
        Net.due("for the first", "1 0", x.sleepers('A') + " " + x.sleepers('B'));
        x = Net.of("a(f(1),2)").question("a(f(A),3)");
        Net.due("a wait comes before what would fail behind it", "2", x.outcome());
        x = Net.of("a(2,f(1))").question("a(3,A)");
        Net.due("a failure before what would wait", Net.FAILED, x.outcome());
        x = Net.of("a(f(X,Y),Z)|Z=g(Y,X)").question("a(f(1,b(Q)),A),Q=2");
        Net.due("ends", "1", x.outcome());
        Net.due("VARIABLES are the CALL's TERMS", "g(b(2),1)", x.shows('A'));
    }

    private static void metBefore() {
        runs("alike", "1", "a(X,X)", "a(f(1,b),f(1,b))");
        runs("not alike", Net.FAILED, "a(X,X)", "a(f(1,b),f(1,c))");
        runs("the same VARIABLE", "1", "a(X,X)", "a(A,A)");
        runs("the same VARIABLE within", "1", "a(X,X)", "a(f(A),f(A))");
        runs("another VARIABLE", "2", "a(X,X)", "a(A,B)");
        Net x = Net.of("a(X,X)").question("a(f(A),f(B))");
        x.outcome();
        Net.due("the one met before is the first", "1 0",
                x.sleepers('A') + " " + x.sleepers('B'));
        x = Net.of("a(X,f(X))").question("a(1,f(B))");
        x.outcome();
        Net.due("the only VARIABLE", 1, x.sleepers('B'));
    }

    private static void less() {
        runs("below", "1", "a(X,Y):X<Y", "a(1,2)");
        runs("the same", Net.FAILED, "a(X,Y):X<Y", "a(2,2)");
        runs("above", Net.FAILED, "a(X,Y):X<Y", "a(3,2)");
        runs("no NUMBER", Net.FAILED, "a(X,Y):X<Y", "a(1,b)");
        runs("no NUMBER first", Net.FAILED, "a(X,Y):X<Y", "a(b,1)");
        runs("written out", "1", "a:9<10", "a");
        Net x = Net.of("a(X,Y):X<Y").question("a(A,B)");
        x.outcome();
        Net.due("the first before the second", "1 0", x.sleepers('A') + " " + x.sleepers('B'));
        x.question("a(1,B)").outcome();
        Net.due("the second", 1, x.sleepers('B'));
        x.question("a(b,B)").outcome();
        Net.due("a VARIABLE before no NUMBER", 1, x.sleepers('B'));
        x.question("C#0-1,a(C,0)");
        Net.due("below zero", "1", x.outcome());
        runs("a VARIABLE within is none", Net.FAILED, "a(X):f(X)<1", "a(A)");
    }

    private static void alike() {
        runs("= alike", "1", "a(X,Y):X=Y", "a(f(1),f(1))");
        runs("= not alike", Net.FAILED, "a(X,Y):X=Y", "a(f(1),f(2))");
        runs("= letters", Net.FAILED, "a(X,Y):X=Y", "a(f,g)");
        runs("= as many", Net.FAILED, "a(X,Y):X=Y", "a(f(1),f(1,1))");
        runs("= kinds", Net.FAILED, "a(X,Y):X=Y", "a(f,1)");
        runs("= same VARIABLE", "1", "a(X,Y):X=Y", "a(A,A)");
        runs("= waits", "2", "a(X,Y):X=Y", "a(A,1)");
        runs("= built", "1", "a(X):f(X,2)=f(1,2)", "a(1)");
        runs("~ alike", Net.FAILED, "a(X,Y):X~Y", "a(f(1),f(1))");
        runs("~ not alike", "1", "a(X,Y):X~Y", "a(f(1),f(2))");
        runs("~ same VARIABLE", Net.FAILED, "a(X,Y):X~Y", "a(A,A)");
        runs("~ waits", "2", "a(X,Y):X~Y", "a(f(A,1),f(1,2))");
        runs("not alike at once", "1", "a(X,Y):X~Y", "a(f(1,A),f(2,B))");
        runs("each wholly, from the first on", "2", "a(X,Y):X~Y", "a(f(g(A),1),f(g(1),2))");
        Net x = Net.of("a(X,Y):X~Y").question("a(f(1,A),f(1,B))");
        x.outcome();
        Net.due("the first, if both are", "1 0", x.sleepers('A') + " " + x.sleepers('B'));
    }

    private static void guardsInOrder() {
        runs("the first fails", Net.FAILED, "a(X):2<1,X<1", "a(A)");
        runs("the first waits", "2", "a(X):X<1,2<1", "a(A)");
        runs("all succeed", "1", "a(X):X<3,1<X,X~f", "a(2)");
        runs("the last fails", Net.FAILED, "a(X):X<3,1<X,X=f", "a(2)");
    }

    private static void unmetInGuard() {
        runs("in <", Net.FAILED, "a(X):X<Q", "a(A)");
        runs("in =", Net.FAILED, "a(X):Q=Q", "a(A)");
        runs("in ~, deep", Net.FAILED, "a(X):f(1,Q)~f(2,X)", "a(A)");
        runs("not reached", "2", "a(X):X=1,Q=1", "a(A)");
    }

    private static void firstThatSucceeds() {
        Net x = Net.of("a(1,X)|X=1", "a(Y,X):Y~2|X=2", "a(Y,X)|X=3").question("a(2,A),a(3,B)");
        Net.due("ends", "1", x.outcome());
        Net.due("in order", "3 2", x.shows('A') + " " + x.shows('B'));
        x = Net.of("a(1,X)|X=1", "a(Y,X)|X=2").question("a(Q,A),Q=1");
        Net.due("ends", "1", x.outcome());
        Net.due("one that waits doesn't stop the next", "2", x.shows('A'));
        x = Net.of("a(X)|b(X)", "a(X)|X=1", "b(2)").question("A=1,a(A)");
        Net.due("no other any more", Net.FAILED, x.outcome());
    }

    private static void runs(String what, String due, String clause, String question) {
        Net.due(what, due, Net.of(clause).question(question).outcome());
    }
}
