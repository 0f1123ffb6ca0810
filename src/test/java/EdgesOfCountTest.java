/** Promise 9: count. */
public final class EdgesOfCountTest {
    public static void main(String[] args) {
        otherwise();
        noPlaceYet();
        latestPlace();
        length();
        clauses();
        withoutQuestion();
        steps();
        inRowsAndAsleep();
        variables();
        wentToSleep();
        states();
        rows();
        Net.end();
    }

    private static void counts(Net x, int what, int due) {
        Net.due("count(" + what + ")", due, x.net.count(what));
    }

    /** "else -1" */
    private static void otherwise() {
        Net x = Net.of("w(1)");
        for (int round = 0; round < 3; round++) {
            for (int what = -20; what <= 40; what++) {
                boolean told = what >= 0 && what <= 8 || what >= 10 && what <= 13;
                if (!told) {
                    counts(x, what, -1);
                } else if (what > 0) {
                    Net.due("count(" + what + ") is told", true, x.net.count(what) >= 0);
                }
            }
            counts(x, Integer.MIN_VALUE, -1);
            counts(x, Integer.MAX_VALUE, -1);
            counts(x, 256, -1);
            counts(x, 266, -1);
            if (round == 0) {
                x.question("w(A)^3,w(2)");
            } else {
                x.outcome();
            }
        }
    }

    /** "-1 if there was none (0)" */
    private static void noPlaceYet() {
        Net x = new Net();
        counts(x, 0, -1);
        x.text("a(1)").net.add();
        x.question("a(1)").outcome();
        Net.due("a bad byte", Net.BAD, () -> x.net.type(1));
        Net.due("too long", Net.STATE, () -> x.text("a".repeat(56)).net.count(1));
        Net.due("bad", Net.BAD, () -> x.drop(7));
        counts(x, 0, -1);
        Net.due("the first that couldn't", Net.BAD, () -> x.net.ask());
        counts(x, 0, 1);
    }

    /** "THE PLACE of the latest text that couldn't be read" */
    private static void latestPlace() {
        Net x = new Net().text("a(1,");
        Net.due("by add", Net.BAD, () -> x.net.add());
        counts(x, 0, 4);
        x.text("a^7");
        Net.due("by ask", Net.BAD, () -> x.net.ask());
        counts(x, 0, 2);
        x.text("a").net.add();
        x.question("a").outcome();
        counts(x, 0, 2);
        Net.due("no text", Net.BAD, () -> x.net.add());
        counts(x, 0, 0);
        x.text("a,".repeat(24));
        Net.due("the farthest", Net.BAD, () -> x.net.ask());
        counts(x, 0, 48);
    }

    /** "the text's length (1)" */
    private static void length() {
        Net x = new Net();
        for (int size = 1; size <= 48; size++) {
            x.net.type('a');
            counts(x, 1, size);
        }
        Net.due("no more", Net.STATE, () -> x.net.type('a'));
        counts(x, 1, 48);
        Net.due("bad", Net.BAD, () -> x.net.ask());
        counts(x, 1, 0);
    }

    /** "CLAUSES (2)" */
    private static void clauses() {
        Net x = new Net();
        for (int many = 0; many <= 12; many++) {
            counts(x, 2, many);
            x.text("a");
            Net.answerOf(() -> x.net.add());
        }
        counts(x, 2, 12);
        for (int many = 11; many >= 0; many--) {
            x.drop(many);
            counts(x, 2, many);
        }
    }

    /** "of the QUESTION (0 without)"; "0 without one (8)" */
    private static void withoutQuestion() {
        Net x = Net.of("a").text("a");
        for (int what : new int[] {3, 4, 5, 6, 7, 8, 10, 11, 12, 13}) {
            counts(x, what, 0);
        }
        Net.due("none to run", Net.STATE, () -> x.net.run(1));
        for (int what : new int[] {3, 4, 5, 6, 7, 8, 10, 11, 12, 13}) {
            counts(x, what, 0);
        }
    }

    /** "STEPS (3)" */
    private static void steps() {
        Net x = Net.of("l|l").question("l");
        counts(x, 3, 0);
        x.net.run(1);
        counts(x, 3, 1);
        x.net.run(99);
        counts(x, 3, 100);
        Net.due("bad", Net.BAD, () -> x.net.run(101));
        counts(x, 3, 100);
        x.outcome();
        counts(x, 3, 400);
        x.question("l");
        counts(x, 3, 0);
        Net y = new Net().question("1=2");
        y.outcome();
        counts(y, 3, 1);
    }

    /** "GOALS in ROWS (4), asleep (5)" */
    private static void inRowsAndAsleep() {
        Net x = Net.of("w(1)").question("w(A)^0,w(A)^3,A=1");
        String[] due = {"3 0", "2 1", "2 0", "1 0", "0 0"};
        for (int k = 0; k < due.length; k++) {
            Net.due("after " + k + " STEPS", due[k], x.net.count(4) + " " + x.net.count(5));
            x.net.run(1);
        }
    }

    /** "VARIABLES that came to be (6)" */
    private static void variables() {
        Net x = Net.of("p(X)|X=f(Y)", "q(X):X=X|X=1").question("p(A),q(B),p(C)");
        String[] due = {"3", "4", "4", "5"};
        for (int k = 0; k < due.length; k++) {
            Net.due("after " + k + " STEPS", due[k], x.net.count(6));
            x.net.run(1);
        }
        x.outcome();
        Net.due("WRITTEN ones came to be, too", 5, x.net.count(6));
    }

    /** "how often a GOAL went to sleep (7)" */
    private static void wentToSleep() {
        Net x = Net.of("w(f(1,2))").question("w(A)^3,A=f(B,C),B=1,C=2");
        String[] due = {"0", "1", "1", "2", "2", "3", "3", "3"};
        for (int k = 0; k < due.length; k++) {
            Net.due("after " + k + " STEPS", due[k], x.net.count(7));
            x.net.run(1);
        }
        x.question("A#B+B");
        x.outcome();
        Net.due("a RECKONING", 1, x.net.count(7));
        x.question("A=1");
        Net.due("of this QUESTION", 0, x.net.count(7));
    }

    /** "1 if it can be run, 2 if it FAILED, 3 TOO MUCH, 0 without one (8)" */
    private static void states() {
        Net x = Net.of("w(1)", "q|q,q,q", "l|l");
        counts(x, 8, 0);
        String[] questions = {"w(1)", "w(A)", "w(2)", "1=2", "A#b+1", "q", "l", "A=f(A),A=A"};
        int[] due = {1, 1, 2, 2, 2, 3, 3, 3};
        for (int k = 0; k < questions.length; k++) {
            x.question(questions[k]);
            counts(x, 8, 1);
            x.outcome();
            counts(x, 8, due[k]);
        }
    }

    /** "GOALS in the ROW of LEVEL what - 10 (10 .. 13)" */
    private static void rows() {
        Net x = Net.of("a").question("a^0,a,a,a^2,a^2,a^2,a^3,a^3,a^3,a^3");
        Net.due("each LEVEL", "1 2 3 4", x.rows());
        counts(x, 9, -1);
        counts(x, 14, -1);
        counts(x, 4, 10);
        x.net.run(4);
        Net.due("the highest is empty", "1 2 3 0", x.rows());
        x.net.run(6);
        Net.due("all are", "0 0 0 0", x.rows());
    }
}
