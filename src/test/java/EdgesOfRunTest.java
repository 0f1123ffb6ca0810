/** Promise 6: what run takes and answers, and when it can't be. */
public final class EdgesOfRunTest {
    public static void main(String[] args) {
        steps();
        atMost();
        atMost100();
        noQuestion();
        failedBefore();
        tooMuchBefore();
        moreToDo();
        ended();
        stands();
        allRowsEmpty();
        failsAtTheLastStep();
        badFirst();
        whatItDidStays();
        Net.end();
    }

    /** d(N) takes 2 N + 1 STEPS, e one. */
    private static Net counting(String question) {
        return Net.of("d(N):0<N|M#N-1,d(M)", "d(0)", "e", "w(1)", "l|l").question(question);
    }

    /** "at most n STEPS (1 .. 100)" */
    private static void steps() {
        int[] wrong = {0, -1, -100, 101, 102, 256, 257, Integer.MIN_VALUE, Integer.MAX_VALUE};
        for (int n : wrong) {
            Net x = counting("l");
            Net.due("run(" + n + ")", Net.BAD, () -> x.net.run(n));
            Net.due("no STEP", "0 1 0 0 0 1", x.counts());
        }
        for (int n : new int[] {1, 2, 50, 99, 100}) {
            Net x = counting("l");
            Net.due("run(" + n + ")", 0, () -> x.net.run(n));
            Net.due("STEPS", n, x.net.count(3));
        }
    }

    /** "RUNS at most n STEPS": no more than there are, and no fewer. */
    private static void atMost() {
        for (int n = 1; n <= 5; n++) {
            int steps = n;
            Net x = counting("e,e,e");
            Net.due("run(" + n + ") of three STEPS", n < 3 ? 0 : 1, () -> x.net.run(steps));
            Net.due("STEPS", Math.min(n, 3), x.net.count(3));
            Net.due("GOALS", Math.max(3 - n, 0), x.net.count(4));
        }
    }

    private static void atMost100() {
        String[] questions = {"d(49)", "d(49),e", "d(49),e,e"};
        for (int k = 0; k < 3; k++) {
            Net x = counting(questions[k]);
            Net.due(99 + k + " STEPS", k < 2 ? 1 : 0, () -> x.net.run(100));
            Net.due("STEPS", Math.min(99 + k, 100), x.net.count(3));
            Net.due("the rest", 1, () -> x.net.run(1));
            Net.due("STEPS", 99 + k, x.net.count(3));
        }
    }

    /** "There's no QUESTION .. : IllegalStateException." */
    private static void noQuestion() {
        Net x = Net.of("a");
        Net.due("none", Net.STATE, () -> x.net.run(1));
        x.text("a(");
        Net.due("bad", Net.BAD, () -> x.net.ask());
        Net.due("still none", Net.STATE, () -> x.net.run(100));
        x.question("a");
        Net.due("there is one", 1, () -> x.net.run(1));
    }

    /** "or it FAILED .. before: IllegalStateException"; "After FAILED .. nothing can be run." */
    private static void failedBefore() {
        String[] questions = {"1=2,a", "f,a", "A#b+1,a", "w(2),a"};
        for (String question : questions) {
            Net x = counting(question);
            Net.due(question, Net.FAILED, () -> x.net.run(1));
            Net.due("then", Net.STATE, () -> x.net.run(1));
            Net.due("and then", Net.STATE, () -> x.net.run(100));
            x.text("f").net.add();
            x.text("a").net.add();
            Net.due("CLAUSES don't help", Net.STATE, () -> x.net.run(1));
            Net.due("as it was", "1 1 0", x.counts().substring(0, 5));
            Net.due("it FAILED", 2, x.net.count(8));
            x.question("e");
            Net.due("another can be run", 1, () -> x.net.run(1));
        }
    }

    /** "or was TOO MUCH before: IllegalStateException"; "After .. TOO MUCH nothing can be run." */
    private static void tooMuchBefore() {
        Net x = counting("A=f(A),A=A,e");
        Net.due("TOO MUCH", Net.STATE, () -> x.net.run(3));
        Net.due("as it was", "2 1 0 1 0 3", x.counts());
        Net.due("then", Net.STATE, () -> x.net.run(1));
        Net.due("and then", Net.STATE, () -> x.net.run(100));
        Net.due("no STEP more", "2 1 0 1 0 3", x.counts());
        x.question("e");
        Net.due("another can be run", 1, () -> x.net.run(1));
    }

    /** "Answers 0 if there is more to do" */
    private static void moreToDo() {
        Net x = counting("w(A),e");
        Net.due("one asleep, one in a ROW", 0, () -> x.net.run(1));
        x.question("w(A),A=1");
        Net.due("asleep", 0, () -> x.net.run(1));
        Net.due("it woke with the last STEP", 0, () -> x.net.run(1));
        Net.due("and is done", 1, () -> x.net.run(1));
        x.question("l");
        Net.due("the STEP brought another", 0, () -> x.net.run(1));
        for (int level = 0; level <= 3; level++) {
            x.question("e^3,e^" + level);
            Net.due("one at LEVEL " + level, 0, () -> x.net.run(1));
        }
    }

    /** "then it has ENDED, if none sleeps"; "1 if it has ENDED" */
    private static void ended() {
        Net x = counting("e");
        Net.due("the only STEP", 1, () -> x.net.run(1));
        Net.due("again", 1, () -> x.net.run(1));
        Net.due("and again", 1, () -> x.net.run(100));
        Net.due("no STEP more", "1 0 0 0 0 1", x.counts());
    }

    /** "else it STANDS"; "2 if it STANDS" */
    private static void stands() {
        Net x = counting("w(A)");
        Net.due("the only STEP", 2, () -> x.net.run(1));
        Net.due("again", 2, () -> x.net.run(1));
        Net.due("and again", 2, () -> x.net.run(100));
        Net.due("no STEP more", "1 0 1 1 1 1", x.counts());
        Net.due("it can be run", 1, x.net.count(8));
    }

    /** "STEPS, until all ROWS are empty" */
    private static void allRowsEmpty() {
        Net x = counting("e^0,e^1,e^2,e^3,w(A)^0");
        String[] due = {"2 1 1 1", "2 1 1 0", "2 1 0 0", "2 0 0 0", "1 0 0 0", "0 0 0 0"};
        for (int k = 0; k < 5; k++) {
            int last = k;
            Net.due("ROWS", due[k], x.rows());
            Net.due("run", last < 4 ? 0 : 2, () -> x.net.run(1));
        }
        Net.due("ROWS", due[5], x.rows());
    }

    private static void failsAtTheLastStep() {
        Net x = counting("e,1=2");
        Net.due("before", 0, () -> x.net.run(1));
        Net.due("FAILED, not ENDED", Net.FAILED, () -> x.net.run(1));
        Net.due("nothing is left", "2 0 0 0 0 2", x.counts());
    }

    /** "Bad comes before the others" */
    private static void badFirst() {
        Net x = Net.of("q|q,q,q");
        Net.due("no QUESTION", Net.BAD, () -> x.net.run(0));
        Net.due("no QUESTION", Net.BAD, () -> x.net.run(101));
        x.question("1=2").outcome();
        Net.due("FAILED", Net.BAD, () -> x.net.run(0));
        Net.due("FAILED", Net.BAD, () -> x.net.run(101));
        x.question("q").outcome();
        Net.due("TOO MUCH", Net.BAD, () -> x.net.run(0));
        Net.due("TOO MUCH", Net.BAD, () -> x.net.run(101));
        x.question("1=2");
        Net.due("it would fail", Net.BAD, () -> x.net.run(101));
    }

    /** "what a run() did before it FAILED stays" */
    private static void whatItDidStays() {
        Net x = counting("w(B),A=1,w(C),B=g(A),f,e");
        Net.due("FAILED", Net.FAILED, () -> x.net.run(100));
        Net.due("all of it", "counts -1 0 5 5 2 1 3 2 2 -1 0 2 0 0"
                + " A=1 with 0 B=g(1) with 0 C=_ with 1", x.all());
    }
}
