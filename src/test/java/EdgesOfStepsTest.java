/** "Terms": the edges within a STEP, but for its limits. */
public final class EdgesOfStepsTest {
    public static void main(String[] args) {
        asManyArguments();
        theWholeOfAnArgument();
        asSoonAsOneIsNoSuccess();
        below();
        waitsForTheFirst();
        notInTheHead();
        noClause();
        someMustWait();
        onAllThatWereFound();
        noOtherAnyMore();
        come();
        levelOfTheCall();
        highestLevel();
        laterIsWritten();
        atLast();
        forGood();
        reckoning();
        wake();
        sleepOnNothing();
        Net.end();
    }

    private static void runs(String what, String due, String clause, String question) {
        Net.due(what + ": " + clause + " for " + question, due,
                Net.of(clause).question(question).outcome());
    }

    /** "its CLAUSES (same letter, as many ARGUMENTS)"; "have as many ARGUMENTS (else it FAILS)" */
    private static void asManyArguments() {
        String[] with = {"", "(1)", "(1,1)", "(1,1,1)"};
        for (int head = 0; head <= 3; head++) {
            for (int call = 0; call <= 3; call++) {
                String due = head == call ? "1" : Net.FAILED;
                runs("a CALL", due, "p" + with[head], "p" + with[call]);
                runs("within", due, "p(q" + with[head] + ")", "p(q" + with[call] + ")");
                runs("=", due, "p(X,Y):X=Y", "p(q" + with[head] + ",q" + with[call] + ")");
                runs("SAME", due, "p", "q" + with[head] + "=q" + with[call]);
            }
        }
        runs("another letter", Net.FAILED, "p", "q");
        runs("the letters beside", Net.FAILED, "b", "a");
        runs("the letters beside", Net.FAILED, "b", "c");
        runs("a letter is no NUMBER", Net.FAILED, "p(a)", "p(97)");
        runs("a NUMBER is no letter", Net.FAILED, "p(97)", "p(a)");
    }

    /** "MATCHING, ARGUMENT by ARGUMENT, each wholly" */
    private static void theWholeOfAnArgument() {
        Net x = Net.of("p(f(1),2)").question("p(f(A),B)");
        Net.due("STANDS", "2", x.outcome());
        Net.due("what is within the first", "1 0", x.sleepers('A') + " " + x.sleepers('B'));
        x = Net.of("p(f(X),X)").question("p(f(A),B)");
        Net.due("STANDS", "2", x.outcome());
        Net.due("met within", "1 0", x.sleepers('A') + " " + x.sleepers('B'));
        x = Net.of("p(X,f(X))").question("p(A,B)");
        Net.due("STANDS", "2", x.outcome());
        Net.due("a letter before the one met", "0 1", x.sleepers('A') + " " + x.sleepers('B'));
        runs("the last of three", Net.FAILED, "p(X,Y,3)", "p(1,2,4)");
        runs("the last of three", "1", "p(X,Y,3)", "p(1,2,3)");
    }

    /** "it SUCCEEDS, FAILS or must WAIT, as soon as one of these isn't a success" */
    private static void asSoonAsOneIsNoSuccess() {
        runs("WAIT, then FAILS", "2", "p(1,2)", "p(A,3)");
        runs("FAILS, then WAIT", Net.FAILED, "p(2,1)", "p(3,A)");
        runs("WAIT in the HEAD, then a GUARD", "2", "p(1):2<1", "p(A)");
        runs("FAILS in the HEAD, then a GUARD", Net.FAILED, "p(1,X):X<1", "p(2,A)");
        runs("WAIT in a GUARD, then FAILS", "2", "p(X):X<1,2<1", "p(A)");
        runs("FAILS in a GUARD, then WAIT", Net.FAILED, "p(X):2<1,X<1", "p(A)");
        runs("WAIT in a GUARD, then not in the HEAD", "2", "p(X):X<1,Q<1", "p(A)");
        runs("not in the HEAD, then WAIT", Net.FAILED, "p(X):Q<1,X<1", "p(A)");
    }

    /** "<: both NUMBERS, the first below the second, else FAILS" */
    private static void below() {
        runs("one below", "1", "p(X,Y):X<Y", "p(4,5)");
        runs("the same", Net.FAILED, "p(X,Y):X<Y", "p(5,5)");
        runs("one above", Net.FAILED, "p(X,Y):X<Y", "p(6,5)");
        runs("the least and the greatest", "1", "p:0<99", "p");
        runs("the greatest and the least", Net.FAILED, "p:99<0", "p");
        runs("a letter first", Net.FAILED, "p:a<1", "p");
        runs("a letter last", Net.FAILED, "p:1<a", "p");
        runs("two letters", Net.FAILED, "p:a<b", "p");
        Net x = Net.of("p(X,Y):X<Y").question("A#0-1,p(A,0)");
        Net.due("-1 < 0", "1", x.outcome());
        Net.due("0 < -1", Net.FAILED, x.question("A#0-1,p(0,A)").outcome());
    }

    /** "WAIT for that (the first one before the second)"; "(the first one, if both are)" */
    private static void waitsForTheFirst() {
        for (String guard : new String[] {"<", "=", "~"}) {
            Net x = Net.of("p(X,Y):X" + guard + "Y").question("p(A,B)");
            Net.due("both", "2 1 0", x.outcome() + " " + x.sleepers('A') + " " + x.sleepers('B'));
            x.question("p(B,A)");
            Net.due("both", "2 0 1", x.outcome() + " " + x.sleepers('A') + " " + x.sleepers('B'));
            x.question("p(A,1)");
            Net.due("the first", "2 1", x.outcome() + " " + x.sleepers('A'));
            x.question("p(1,A)");
            Net.due("the second", "2 1", x.outcome() + " " + x.sleepers('A'));
        }
        Net x = Net.of("p(X,Y):X<Y").question("p(A,A)");
        Net.due("the same one of <", "2 1", x.outcome() + " " + x.sleepers('A'));
        runs("the same one of =", "1", "p(X,Y):X=Y", "p(A,A)");
        runs("the same one of ~", Net.FAILED, "p(X,Y):X~Y", "p(A,A)");
        x = Net.of("p(X,X)").question("p(A,B)");
        Net.due("the one met before", "2 1 0",
                x.outcome() + " " + x.sleepers('A') + " " + x.sleepers('B'));
    }

    /** "a VARIABLE of the CLAUSE that wasn't in the HEAD, used in one: FAILS" */
    private static void notInTheHead() {
        runs("in the HEAD", "1", "p(Q):Q=Q", "p(A)");
        runs("in the HEAD, deep", "1", "p(f(g(Q))):Q=Q", "p(f(g(A)))");
        runs("not", Net.FAILED, "p(X):Q=Q", "p(A)");
        runs("not, deep", Net.FAILED, "p(X):X=f(g(Q))", "p(1)");
        runs("not, on the left of ~", Net.FAILED, "p(X):Q~1", "p(1)");
        runs("not, where it isn't alike before", Net.FAILED, "p(X):f(1,Q)~f(2,1)", "p(1)");
        runs("not, with one to WAIT for", Net.FAILED, "p(X):X<Q", "p(A)");
        runs("in a GOAL alone", "1", "p(X)|Q=1", "p(1)");
        runs("in a GUARD before", Net.FAILED, "p:Q=1,Q=1", "p");
    }

    /** "else all has FAILED": no CLAUSE at all, or none that SUCCEEDS or must WAIT. */
    private static void noClause() {
        Net.due("none there", Net.FAILED, new Net().question("p").outcome());
        Net.due("none of it", Net.FAILED, Net.of("q", "p(1)").question("p").outcome());
        Net.due("all FAIL", Net.FAILED, Net.of("p(1)", "p(2)").question("p(3)").outcome());
    }

    /** "None SUCCEEDS: if some must WAIT, the CALL sleeps" */
    private static void someMustWait() {
        Net.due("the first", "2", Net.of("p(1,A)", "p(A,1)").question("p(A,2)").outcome());
        Net.due("the last", "2", Net.of("p(A,1)", "p(1,A)").question("p(A,2)").outcome());
        Net.due("one SUCCEEDS behind", "1", Net.of("p(1)", "p(X)").question("p(A)").outcome());
        Net.due("one SUCCEEDS before", "1", Net.of("p(X)", "p(1)").question("p(A)").outcome());
    }

    /** "the CALL sleeps on all VARIABLES that were so found" */
    private static void onAllThatWereFound() {
        Net x = Net.of("p(1,Y,Z)", "p(X,1,Z)", "p(X,Y,1)", "p(2,Y,Z)").question("p(A,B,C)");
        Net.due("STANDS", "2", x.outcome());
        Net.due("on three", "1 1 1",
                x.sleepers('A') + " " + x.sleepers('B') + " " + x.sleepers('C'));
        Net.due("one GOAL, asleep once", "1 0 1 3 1 1", x.counts());
        Net y = new Net();
        for (int k = 0; k < 12; k++) {
            y.text("p(f(" + k % 10 + ",1)," + k + ",X)").net.add();
        }
        y.question("p(A,B,C)");
        Net.due("twelve CLAUSES, one VARIABLE", "2 1 0",
                y.outcome() + " " + y.sleepers('A') + " " + y.sleepers('B'));
        twelveVariables();
    }

    /** Each of twelve CLAUSES may find another VARIABLE. */
    private static void twelveVariables() {
        Net x = new Net();
        String[] heads = {"p(c(1,Y,Z),U,V)", "p(c(X,1,Z),U,V)", "p(c(X,Y,1),U,V)",
            "p(U,c(1,Y,Z),V)", "p(U,c(X,1,Z),V)", "p(U,c(X,Y,1),V)",
            "p(U,V,c(d(1,Y,Z),X,W))", "p(U,V,c(d(X,1,Z),Y,W))", "p(U,V,c(d(X,Y,1),Z,W))",
            "p(U,V,c(W,d(1,Y,Z),X))", "p(U,V,c(W,d(X,1,Z),Y))", "p(U,V,c(W,d(X,Y,1),Z))"};
        for (String head : heads) {
            x.text(head).net.add();
        }
        x.question("p(c(A,B,C),c(D,E,F),c(d(G,H,I),d(J,K,L),0))");
        Net.due("STANDS", "2", x.outcome());
        for (char variable = 'A'; variable <= 'L'; variable++) {
            Net.due("asleep on " + variable, 1, x.sleepers(variable));
        }
        Net.due("one GOAL", "1 1", x.net.count(5) + " " + x.net.count(7));
    }

    /** "The first CLAUSE that SUCCEEDS is taken, no other any more" */
    private static void noOtherAnyMore() {
        Net x = Net.of("p(R)|1=2", "p(R)|R=1").question("p(A)");
        Net.due("its GOAL FAILS", Net.FAILED, x.outcome());
        Net.due("no other is taken", "_", x.shows('A'));
    }

    /** "VARIABLES come to be anew for each QUESTION and each use of a CLAUSE" */
    private static void come() {
        Net x = Net.of("p(X):X=X|q(X,Y),q(Y,Z)", "q(X,Y)|X=1");
        Net.due("none", 0, new Net().question("a").net.count(6));
        x.question("p(A),p(A),p(B)");
        Net.due("of the QUESTION, each once", 2, x.net.count(6));
        x.net.run(1);
        Net.due("of a use, those not met", 4, x.net.count(6));
        x.net.run(2);
        Net.due("of each use", 8, x.net.count(6));
        x.question("p(1)");
        Net.due("of another QUESTION", 0, x.net.count(6));
        x.question("A=B,C=D,E=F,G=H,I=J,K=L,M=N");
        Net.due("fourteen", 14, x.net.count(6));
        x.question("c(c(A,B,C),c(D,E,F),c(G,H,I)),c(J,K,L)");
        Net.due("twelve", 12, x.net.count(6));
    }

    /** "a CALL without ^ gets the LEVEL of the CALL that brought it in" */
    private static void levelOfTheCall() {
        for (int level = 0; level <= 3; level++) {
            Net x = Net.of("p|a,b^0,c^3,A=1,B#1+1").question("p^" + level);
            x.net.run(1);
            int[] due = {1, 0, 0, 1};
            due[level] += 3;
            Net.due("LEVEL " + level, due[0] + " " + due[1] + " " + due[2] + " " + due[3],
                    x.rows());
        }
    }

    /** "the first GOAL of the ROW of the highest LEVEL that has any" */
    private static void highestLevel() {
        Net x = Net.of("p(N,L)|L=N").question("p(0,A)^0,p(1,A)^1,p(2,A)^2,p(3,A)^3");
        x.outcome();
        Net.due("3 first", "3", x.shows('A'));
        x.question("p(0,A)^0,p(1,A)^1,p(2,A)^2").outcome();
        Net.due("then 2", "2", x.shows('A'));
        x.question("p(0,A)^0,p(1,A)^1").outcome();
        Net.due("then 1", "1", x.shows('A'));
        x.question("p(0,A)^0,p(9,A)^0").outcome();
        Net.due("the first of a ROW", "0", x.shows('A'));
    }

    /** "two VARIABLES, one is WRITTEN to be the other (the one that came to be later)" */
    private static void laterIsWritten() {
        String[] sames = {"A=B", "B=A", "f(A)=f(B)", "f(B)=f(A)"};
        Net x = Net.of("w(1)", "p(X)|w(Y)^3,X=Y", "q(X)|w(Y)^3,Y=X", "r|w(B)^3,w(A)^2,A=B");
        for (String same : sames) {
            x.question("w(A)^2,w(B)^3,A=A,f(A)=f(A)," + same).net.run(5);
            Net.due(same + ": who slept on B woke", "0 0 0 1", x.rows());
            Net.due("w(A) sleeps on", "1 1", x.sleepers('A') + " " + x.sleepers('B'));
            x.question("w(B)^3,w(A)^2,A=A," + same).net.run(4);
            Net.due(same + ": B came to be earlier", "0 0 1 0", x.rows());
        }
        x.question("w(A)^2,p(A)").net.run(4);
        Net.due("a CLAUSE's is later", "0 0 0 1", x.rows());
        x.question("w(A)^2,q(A)").net.run(4);
        Net.due("a CLAUSE's is later", "0 0 0 1", x.rows());
        x.question("r").net.run(4);
        Net.due("of one CLAUSE, the later in it", "0 0 1 0", x.rows());
        x.question("w(A),A=A").net.run(2);
        Net.due("the same one isn't WRITTEN", "0 1", x.net.count(4) + " " + x.net.count(5));
    }

    /** "What is said of a TERM is said of what it stands for at last." */
    private static void atLast() {
        Net x = Net.of("w(7)", "v(X):X<8").question("A=A,B=B,C=C,D=D,C=D,B=C,A=B,w(D),v(D),D#A+0");
        x.net.run(9);
        Net.due("of a VARIABLE", "2 2 2 2", x.sleepers('A') + " " + x.sleepers('B') + " "
                + x.sleepers('C') + " " + x.sleepers('D'));
        x.question("A=A,B=B,C=C,D=D,C=D,B=C,A=B,A=7,w(D),v(D)");
        Net.due("of a NUMBER", "1", x.outcome());
        Net.due("each", "7 7 7 7", x.shows('A') + " " + x.shows('B') + " " + x.shows('C') + " "
                + x.shows('D'));
    }

    /** "one may be WRITTEN: bound to a TERM for good"; "(what was WRITTEN stays)" */
    private static void forGood() {
        Net x = new Net().question("A=1,A=1,A=2");
        Net.due("once more the same", 0, () -> x.net.run(2));
        Net.due("another", Net.FAILED, () -> x.net.run(1));
        Net.due("for good", "1", x.shows('A'));
        x.question("f(A,B,C)=f(1,2,D),f(C,A,E)=f(3,4,5)");
        Net.due("the second isn't alike", Net.FAILED, x.outcome());
        Net.due("what was WRITTEN stays", "1 2 3 3 _", x.shows('A') + " " + x.shows('B') + " "
                + x.shows('C') + " " + x.shows('D') + " " + x.shows('E'));
    }

    /** "RECKONING: a VARIABLE on the right: it sleeps on the first such; no NUMBER: .. FAILED" */
    private static void reckoning() {
        Net x = new Net().question("A#B+C");
        Net.due("both", "2 1 0", x.outcome() + " " + x.sleepers('B') + " " + x.sleepers('C'));
        x.question("A#1+C");
        Net.due("the second", "2 1", x.outcome() + " " + x.sleepers('C'));
        x.question("A#B+1");
        Net.due("the first", "2 1", x.outcome() + " " + x.sleepers('B'));
        x.question("A#B+B");
        Net.due("twice the same", "2 1 1", x.outcome() + " " + x.sleepers('B') + " "
                + x.net.count(5));
        Net.due("no NUMBER first", Net.FAILED, x.question("A#b+1").outcome());
        Net.due("no NUMBER last", Net.FAILED, x.question("A#1+b").outcome());
        Net.due("one within", Net.FAILED, x.question("A#1+f(1)").outcome());
        Net.due("none is WRITTEN", "_", x.shows('A'));
        Net.due("the outcome", "1", x.question("A=5,A#2+3").outcome());
        Net.due("one beside", Net.FAILED, x.question("A=6,A#2+3").outcome());
        Net.due("one beside", Net.FAILED, x.question("A=4,A#2+3").outcome());
        Net.due("no NUMBER", Net.FAILED, x.question("A=f(5),A#2+3").outcome());
    }

    /** "all GOALS that sleep on it wake: .. those that went to sleep earlier first" */
    private static void wake() {
        Net x = Net.of("p(1,N,R)|R=N").question("p(A,7,R),p(A,8,R),p(B,9,R),A=1");
        x.net.run(4);
        Net.due("those on A, and no other", "2 1", x.net.count(4) + " " + x.net.count(5));
        x.net.run(3);
        Net.due("the earlier first", "7", x.shows('R'));
        x.question("p(A,7,R)^0,p(A,8,R)^3,A=1");
        x.net.run(3);
        Net.due("each at its LEVEL", "1 0 0 1", x.rows());
        x.question("q,A=1");
        Net.due("nobody sleeps", Net.FAILED, x.outcome());
        x.question("A=1");
        Net.due("nobody sleeps", "1", x.outcome());
    }

    /** "and sleep on nothing": what is tried anew counts, not what was found before. */
    private static void sleepOnNothing() {
        Net.due("it woke and FAILS", Net.FAILED, Net.of("p(1)").question("p(A),A=2").outcome());
        Net y = Net.of("p(1,Y)", "p(X,1)", "p(f(3),Y)").question("p(A,B),A=f(C)");
        y.net.run(2);
        y.drop(1);
        Net.due("STANDS", "2", y.outcome());
        Net.due("nothing is found on B any more", "0 0 1",
                y.sleepers('A') + " " + y.sleepers('B') + " " + y.sleepers('C'));
        Net x = Net.of("p(1,Y)", "p(X,1)").question("p(A,B),A=2");
        x.net.run(1);
        Net.due("on both", "1 1", x.sleepers('A') + " " + x.sleepers('B'));
        x.net.run(1);
        Net.due("on none", "0 0 0", x.sleepers('A') + " " + x.sleepers('B') + " "
                + x.net.count(5));
        x.net.run(1);
        Net.due("on what it now waits for", "0 1", x.sleepers('A') + " " + x.sleepers('B'));
        x.question("p(A,B),f(A,B)=f(3,1)").net.run(2);
        Net.due("both WRITTEN in one STEP: it woke once", "1 0",
                x.net.count(4) + " " + x.net.count(5));
        Net.due("ENDS", "1", x.outcome());
    }
}
