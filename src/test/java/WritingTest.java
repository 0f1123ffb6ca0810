/** Promise 6: SAME, RECKONING, sleeping and waking. */
public final class WritingTest {
    public static void main(String[] args) {
        same();
        laterIsWritten();
        stays();
        reckoning();
        reckoningFails();
        sleepsOnAll();
        wakingOrder();
        sleepsAgain();
        stream();
        Net.end();
    }

    private static void same() {
        runs("numbers", "1", "12=12");
        runs("other numbers", Net.FAILED, "12=13");
        runs("letters", "1", "a=a");
        runs("other letters", Net.FAILED, "a=b");
        runs("as many", Net.FAILED, "a(1)=a(1,2)");
        runs("kinds", Net.FAILED, "a=1");
        runs("the same VARIABLE", "1", "A=A");
        Net x = runs("both ways", "1", "f(A,2,g(B))=f(1,C,D),B=7");
        Net.due("what they are", "1 7 2 g(7)", shows(x, "ABCD"));
        x = runs("through VARIABLES", "1", "A=B,C=D,B=C,D=f(E),E=3");
        Net.due("what they are", "f(3) f(3) f(3) f(3) 3", shows(x, "ABCDE"));
        x = runs("within itself", "1", "A=f(A),B=1");
        Net.due("no end", 80, x.shows('A').length());
    }

    private static void laterIsWritten() {
        Net x = Net.of("w(1)", "v(X)|Y=X,w(Y)", "u(X)|X=Y,w(Y)").question("w(A),w(B),A=B");
        Net.due("stands", "2", x.outcome());
        Net.due("only w(B) woke", "4 0 2 2 3 1", x.counts());
        Net.due("both on one", "2 2", x.sleepers('A') + " " + x.sleepers('B'));
        x.question("w(A),w(B),B=A");
        Net.due("stands", "2", x.outcome());
        Net.due("whatever side it's on", "4 0 2 2 3 1", x.counts());
        x.question("w(B),A=B");
        Net.due("stands", "2", x.outcome());
        Net.due("the first in the text came to be earlier", "2 0 1 2 1 1", x.counts());
        x.question("w(A),v(A)");
        Net.due("stands", "2", x.outcome());
        Net.due("a CLAUSE's VARIABLE is later", "4 0 2 2 2 1", x.counts());
        x.question("w(A),u(A)");
        Net.due("stands", "2", x.outcome());
        Net.due("a CLAUSE's VARIABLE is later", "4 0 2 2 2 1", x.counts());
    }

    private static void stays() {
        Net x = new Net().question("f(A,1,B)=f(1,2,3)");
        Net.due("fails", Net.FAILED, () -> x.net.run(1));
        Net.due("what was written stays", "1 _", shows(x, "AB"));
        Net.due("the STEP counts, the GOAL is gone", "1 0 0 2 0 2", x.counts());
        Net y = Net.of("w(1)").question("w(A),f(A,1)=f(1,2)");
        Net.due("fails", Net.FAILED, () -> y.net.run(9));
        Net.due("what woke stands in its ROW", "2 1 0 1 1 2", y.counts());
    }

    private static void reckoning() {
        Net x = runs("all three", "1", "A#7+8,B#7-8,C#7*8,D#B*B");
        Net.due("outcomes", "15 -1 56 1", shows(x, "ABCD"));
        runs("it's the outcome already", "1", "A=3,A#1+2");
        x = runs("wraps", "1", "A#99*99,B#A*A,C#B*B,D#0-C");
        Net.due("outcomes", 99 * 99 * 99 * 99 + " " + (int) (96059601L * 96059601L),
                shows(x, "BC"));
        x = Net.of("w(1)").question("A#B+C,w(A),B=3,C#4-6");
        x.net.run(1);
        Net.due("on the first such", "1 0", x.sleepers('B') + " " + x.sleepers('C'));
        x.net.run(2);
        Net.due("woken", "0 1 1", x.sleepers('B') + " " + x.net.count(5) + " " + x.sleepers('A'));
        Net.due("ends", "1", x.outcome());
        Net.due("the outcome", "1", x.shows('A'));
        x = Net.of("w(1)").question("A#B+C,B=3");
        Net.due("stands", "2", x.outcome());
        Net.due("on the second", 1, x.sleepers('C'));
        x = Net.of().question("A#1+A");
        Net.due("on itself", "2", x.outcome());
    }

    private static void reckoningFails() {
        runs("no NUMBER", Net.FAILED, "A#b+1");
        runs("no NUMBER", Net.FAILED, "A#1+f(B)");
        runs("another outcome", Net.FAILED, "A=4,A#1+2");
        runs("no outcome", Net.FAILED, "A=f(3),A#1+2");
        runs("a VARIABLE before no NUMBER", "2", "A#b+C");
    }

    private static void sleepsOnAll() {
        Net x = Net.of("a(1,Y,Z)", "a(X,1,Z)", "a(1,Y,2)", "a(X,Y,Z):2<1")
                .question("a(A,B,C)");
        Net.due("stands", "2", x.outcome());
        Net.due("on all so found, once", "1 1 0",
                x.sleepers('A') + " " + x.sleepers('B') + " " + x.sleepers('C'));
        Net.due("one sleeps", "1 0 1 3 1 1", x.counts());
        x.question("a(A,B,C),B=1");
        Net.due("any of them wakes it", "1", x.outcome());
        Net.due("wholly", "0 0", x.sleepers('A') + " " + x.net.count(5));
    }

    private static void wakingOrder() {
        String[] program = {"p(1,N,R)|R=N", "q(1,N,R)|R=N"};
        Net x = Net.of(program).question("p(A,1,R),q(A,2,R),A=1");
        x.net.run(4);
        Net.due("the earlier sleeper first", "2 0", x.net.count(11) + " " + x.net.count(5));
        x.net.run(1);
        x.net.run(1);
        Net.due("its outcome is first", "1", x.shows('R'));
        // The second wakes and sleeps again, and is still the later sleeper.
        x = Net.of("p(1,N,R)|R=N").question("p(A,1,R)^2,p(B,2,R)^2,B=A,A=1");
        Net.due("fails", Net.FAILED, x.outcome());
        Net.due("earlier sleep counts", "1", x.shows('R'));
        // The first wakes, as B is the later VARIABLE, sleeps again and so comes second.
        x = Net.of("p(1,N,R)|R=N").question("A=A,p(B,1,R)^2,p(A,2,R)^2,A=B,A=1");
        Net.due("fails", Net.FAILED, x.outcome());
        Net.due("who slept again is later", "2", x.shows('R'));
        x = Net.of("p(1,N,R)|R=N").question("p(A,1,R),p(B,2,R),f(B,A)=f(1,1)");
        Net.due("fails", Net.FAILED, x.outcome());
        Net.due("each writing wakes at once", "2", x.shows('R'));
    }

    private static void sleepsAgain() {
        Net x = Net.of("a(f(1,2))").question("a(A)^2,A=f(B,C),B=1,C=2");
        Net.due("ends", "1", x.outcome());
        Net.due("it went to sleep three times", "7 0 0 3 3 1", x.counts());
    }

    private static void stream() {
        Net x = Net.of("p(0,S)|S=n", "p(N,S):0<N|S=c(N,T),M#N-1,p(M,T)",
                "s(n,A,R)|R=A", "s(c(X,Y),A,R)|B#A+X,s(Y,B,R)");
        x.question("s(L,0,R),p(9,L)");
        Net.due("ends", "1", x.outcome());
        Net.due("the sum", "45", x.shows('R'));
        x.question("s(L,0,R),L=c(1,c(2,M))");
        Net.due("stands", "2", x.outcome());
        Net.due("on the open end", 1, x.sleepers('M'));
    }

    private static String shows(Net x, String variables) {
        StringBuilder text = new StringBuilder();
        for (char variable : variables.toCharArray()) {
            text.append(text.length() == 0 ? "" : " ").append(x.shows(variable));
        }
        return text.toString();
    }

    private static Net runs(String what, String due, String question) {
        Net x = new Net().question(question);
        Net.due(what + " " + question, due, x.outcome());
        return x;
    }
}
