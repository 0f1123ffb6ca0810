/**
 * "More than 60 PAIRS in a GUARD (or in MATCHING one met before): TOO MUCH."; of SAME: "More
 * than 60 PAIRS: TOO MUCH."
 */
public final class EdgesOfPairsTest {
    /** Each looks at X and Y and writes R where it is taken. */
    private static final String IS = "g(X,Y,R):X=Y|R=1";
    private static final String ISNT = "g(X,Y,R):X~Y|R=1";
    private static final String MET = "g(X,X,R)|R=1";
    private static final String SAME = "g(X,Y,R)|X=Y,R=1";

    public static void main(String[] args) {
        alike();
        notAlikeAtTheLast();
        variableAtTheLast();
        sameWritesTheLast();
        onePair();
        threeAtOnce();
        downTheFirstOfThree();
        eachHasItsOwn();
        eachMetHasItsOwn();
        otherClauses();
        sameVariableIsOne();
        notAlikeBeforeTooMuch();
        Net.end();
    }

    /**
     * A and B are lists of 1s with these ends. A list of N has 2 N + 1 PAIRS, the last of
     * them the ends; wrapped, one more.
     */
    private static Net lists(int pairs, String endOfA, String endOfB, String... clauses) {
        Net x = Net.of(clauses);
        x.text("k(0,L,E)|L=E").net.add();
        x.text("k(N,L,E):0<N|L=c(1,T),M#N-1,k(M,T,E)").net.add();
        int many = (pairs - 1) / 2;
        boolean wrapped = pairs % 2 == 0;
        String goal = wrapped ? "g(f(A),f(B),R)^0" : "g(A,B,R)^0";
        return x.question("k(" + many + ",A," + endOfA + "),k(" + many + ",B," + endOfB + "),"
                + goal);
    }

    private static String outcome(Net x) {
        String answer = x.outcome();
        return answer.equals("1") ? "R=" + x.shows('R') : answer;
    }

    private static void alike() {
        for (int pairs = 57; pairs <= 63; pairs++) {
            boolean few = pairs <= 60;
            String taken = few ? "R=1" : Net.STATE;
            Net.due("= of " + pairs, taken, outcome(lists(pairs, "n", "n", IS)));
            Net.due("~ of " + pairs, few ? Net.FAILED : Net.STATE,
                    outcome(lists(pairs, "n", "n", ISNT)));
            Net.due("met before, " + pairs, taken, outcome(lists(pairs, "n", "n", MET)));
            Net.due("SAME of " + pairs, taken, outcome(lists(pairs, "n", "n", SAME)));
        }
        Net x = lists(61, "n", "n", IS);
        x.outcome();
        Net.due("TOO MUCH", 3, x.net.count(8));
        Net.due("the GOAL is gone", "0 0", x.net.count(4) + " " + x.net.count(5));
    }

    /** The PAIR that isn't alike is the 60th: that's seen. It's the 61st: it isn't. */
    private static void notAlikeAtTheLast() {
        for (int pairs = 59; pairs <= 62; pairs++) {
            boolean few = pairs <= 60;
            String fails = few ? Net.FAILED : Net.STATE;
            Net.due("= of " + pairs, fails, outcome(lists(pairs, "n", "m", IS)));
            Net.due("~ of " + pairs, few ? "R=1" : Net.STATE,
                    outcome(lists(pairs, "n", "m", ISNT)));
            Net.due("met before, " + pairs, fails, outcome(lists(pairs, "n", "m", MET)));
            Net.due("SAME of " + pairs, fails, outcome(lists(pairs, "n", "m", SAME)));
        }
    }

    private static void variableAtTheLast() {
        for (int pairs = 59; pairs <= 62; pairs++) {
            String due = pairs <= 60 ? "2" : Net.STATE;
            for (String clause : new String[] {IS, ISNT, MET}) {
                Net x = lists(pairs, "D", "n", clause);
                Net.due(clause + " of " + pairs, due, x.outcome());
                Net.due("asleep on it", pairs <= 60 ? 1 : 0, x.sleepers('D'));
                Net y = lists(pairs, "n", "D", clause);
                Net.due(clause + " of " + pairs, due, y.outcome());
                Net.due("asleep on it", pairs <= 60 ? 1 : 0, y.sleepers('D'));
            }
        }
    }

    private static void sameWritesTheLast() {
        for (int pairs = 59; pairs <= 62; pairs++) {
            Net x = lists(pairs, "D", "n", SAME);
            Net.due("SAME of " + pairs, pairs <= 60 ? "R=1" : Net.STATE, outcome(x));
            Net.due("the last", pairs <= 60 ? "n" : "_", x.shows('D'));
        }
        Net x = Net.of().question("A=f(B,A,C),A=f(7,A,8)");
        Net.due("no end", Net.STATE, x.outcome());
        Net.due("what was WRITTEN before stays", "7 _", x.shows('B') + " " + x.shows('C'));
    }

    private static void onePair() {
        Net x = Net.of("g(X,X)", "h(X,Y):X=Y", "i(X,Y):X~Y", "n").question("g(1,1),h(a,a),i(1,2)");
        Net.due("one PAIR each", "1", x.outcome());
    }

    /** c(.,.,.) of three deep: 1 + 3 + 9 + 27 are 40 PAIRS; with one deeper 121. */
    private static void threeAtOnce() {
        Net x = Net.of(IS).question("A=c(B,B,B),B=c(D,D,D),D=c(E,E,E),g(A,A,R)");
        Net.due("40", "R=1", outcome(x));
        x = Net.of(IS).question("A=c(B,B,B),B=c(D,D,D),D=c(1,A),g(A,A,R)");
        Net.due("no end", Net.STATE, outcome(x));
        x = Net.of(IS).question("A=c(B,B,B),B=c(D,D,D),D=c(1,1,E),E=c(1),g(A,A,R)");
        Net.due("49", "R=1", outcome(x));
        x = Net.of(IS).question("A=c(B,B,B),B=c(D,D,D),D=c(1,E,E),E=c(1),g(A,A,R)");
        Net.due("58", "R=1", outcome(x));
        x = Net.of(IS).question("A=c(B,B,B),B=c(D,D,D),D=c(E,E,E),E=c(1),g(A,A,R)");
        Net.due("67", Net.STATE, outcome(x));
        x = Net.of(IS).question("A=f(A,1,1),B=f(B,1,1),g(A,B,R)");
        Net.due("no end, two left behind by each", Net.STATE, outcome(x));
        x.question("A=f(A,1,1),B=f(B,1,1),A=B");
        Net.due("the same", Net.STATE, x.outcome());
    }

    /** "from the first on, each wholly": the ends come before all the 1s, at the Nth + 1. */
    private static void downTheFirstOfThree() {
        for (int many = 58; many <= 60; many++) {
            boolean few = many + 1 <= 60;
            for (String clause : new String[] {IS, ISNT, MET, SAME}) {
                Net x = Net.of("k(0,L,E)|L=E", "k(N,L,E):0<N|L=c(T,1,1),M#N-1,k(M,T,E)", clause);
                x.question("k(" + many + ",A,n),k(" + many + ",B,m),g(A,B,R)^0");
                String seen = clause.equals(ISNT) ? "R=1" : Net.FAILED;
                Net.due(clause + ", not alike at " + (many + 1), few ? seen : Net.STATE,
                        outcome(x));
                x.question("k(" + many + ",A,n),k(" + many + ",B,n),g(A,B,R)^0");
                Net.due(clause + ", and alike there", Net.STATE, outcome(x));
            }
        }
    }

    /** "in a GUARD": each has its own 60. */
    private static void eachHasItsOwn() {
        Net.due("60 and 60", "R=1", outcome(lists(60, "n", "n", "g(X,Y,R):X=Y,Y=X|R=1")));
        Net.due("60 and 61", Net.STATE, outcome(lists(60, "n", "n", "g(X,Y,R):X=Y,a(X)=a(Y)|R=1")));
        Net.due("59 and 60", "R=1", outcome(lists(59, "n", "n", "g(X,Y,R):X=Y,a(X)=a(Y)|R=1")));
        Net.due("60 in the HEAD and in a GUARD", "R=1",
                outcome(lists(60, "n", "n", "g(X,X,R):X=X|R=1")));
        Net.due("60 in each of two CLAUSES", "R=1",
                outcome(lists(60, "n", "n", "g(X,X,R):1=2|R=2", "g(X,Y,R):X=Y|R=1")));
        Net.due("60 in each of two GOALS", "R=1",
                outcome(lists(60, "n", "n", "g(X,Y,R)|X=Y,Y=X,R=1")));
    }

    /** "or in MATCHING one met before": each time has its own. */
    private static void eachMetHasItsOwn() {
        Net x = lists(59, "n", "n", "g(X,Y,R)|h(X,Y,Y)^0,R=1", "h(X,X,X)");
        Net.due("59 and 59", "R=1", outcome(x));
        x = lists(60, "n", "n", "g(X,Y,R)|h(X,Y,Y)^0,R=1", "h(X,X,X)");
        Net.due("60 and 60", "R=1", outcome(x));
        x = lists(61, "n", "n", "g(X,Y,R)|h(X,Y,Y)^0,R=1", "h(X,X,X)");
        Net.due("61", Net.STATE, outcome(x));
        x = lists(60, "n", "n", "g(X,Y,R)|h(X,Y)^0,R=1", "h(f(X),f(X))");
        Net.due("within, 59", "R=1", outcome(x));
        x = lists(62, "n", "n", "g(X,Y,R)|h(X,Y)^0,R=1", "h(f(X),f(X))");
        Net.due("within, 61", Net.STATE, outcome(x));
    }

    /** TOO MUCH in one try ends all, whatever CLAUSES there are behind or were before. */
    private static void otherClauses() {
        Net.due("one behind would SUCCEED", Net.STATE,
                outcome(lists(61, "n", "n", IS, "g(X,Y,R)|R=2")));
        Net.due("one before SUCCEEDS", "R=2",
                outcome(lists(61, "n", "n", "g(X,Y,R)|R=2", IS)));
        Net.due("one before FAILS", Net.STATE,
                outcome(lists(61, "n", "n", "g(X,Y,R):1<1|R=2", IS)));
        Net.due("one before must WAIT", Net.STATE,
                outcome(lists(61, "n", "n", "g(X,Y,1)|R=2", IS)));
        Net.due("a GUARD before FAILS", Net.FAILED,
                outcome(lists(61, "n", "n", "g(X,Y,R):2<1,X=Y|R=1")));
        Net.due("a GUARD before must WAIT", "2",
                outcome(lists(61, "n", "n", "g(X,Y,R):R<1,X=Y|R=1")));
    }

    /** "the same VARIABLE: alike": whatever else would be looked at. */
    private static void sameVariableIsOne() {
        Net x = Net.of(IS, "h(X,X)").question("g(A,A,R),h(B,B),C=C,h(f(D,D),f(D,D))");
        Net.due("alike", "R=1", outcome(x));
        Net.due("nobody slept", 0, x.net.count(7));
    }

    /** "else not alike, at once": without an end behind it. */
    private static void notAlikeBeforeTooMuch() {
        Net x = Net.of(IS).question("A=f(A,1),g(a(1,A),a(2,A),R)^0");
        Net.due("the PAIR before", Net.FAILED, outcome(x));
        x = Net.of(IS).question("A=f(A,1),g(a(A,1),a(A,2),R)^0");
        Net.due("the PAIR behind", Net.STATE, outcome(x));
        x = Net.of(ISNT).question("A=f(A,1),g(a(1,A),a(2,A),R)^0");
        Net.due("the PAIR before", "R=1", outcome(x));
        x = Net.of().question("A=f(A,1),a(1,A)=a(2,A)");
        Net.due("the PAIR before", Net.FAILED, x.outcome());
    }
}
