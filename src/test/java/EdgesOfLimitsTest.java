/** "At most 400 STEPS for a QUESTION, GOALS in ROWS and asleep at most 60: one more: TOO MUCH." */
public final class EdgesOfLimitsTest {
    public static void main(String[] args) {
        aroundFourHundred();
        theStepThatIsTooMuch();
        endsAtFourHundred();
        standsAtFourHundred();
        failsAtFourHundred();
        fourHundredForEach();
        sixtyInRows();
        sixtyInAllRows();
        sixtyAsleep();
        someAsleepSomeInRows();
        fullGoesOn();
        fullSleepsAndWakes();
        whatIsPutBefore();
        sixtyWithOne();
        Net.end();
    }

    private static Net counting(String question) {
        return Net.of("d(N):0<N|M#N-1,d(M)", "d(0)", "e", "w(1)", "l|l").question(question);
    }

    /** d(99) takes 199 STEPS: these take 399, 400 and 401. */
    private static void aroundFourHundred() {
        String[] questions = {"d(99),d(99),e", "d(99),d(99),e,e", "d(99),d(99),e,e,e"};
        for (int k = 0; k < 3; k++) {
            Net x = counting(questions[k]);
            Net.due(399 + k + " STEPS", k < 2 ? "1" : Net.STATE, x.outcome());
            Net.due("were done", Math.min(399 + k, 400), x.net.count(3));
            Net.due("state", k < 2 ? 1 : 3, x.net.count(8));
            Net.due("left", k < 2 ? 0 : 1, x.net.count(4));
        }
    }

    private static void theStepThatIsTooMuch() {
        Net x = counting("l");
        for (int k = 0; k < 4; k++) {
            Net.due("run", 0, () -> x.net.run(100));
        }
        Net.due("400 STEPS are not TOO MUCH", "400 1 0 0 0 1", x.counts());
        Net.due("one more is", Net.STATE, () -> x.net.run(1));
        Net.due("it isn't done", "400 1 0 0 0 3", x.counts());
        Net y = counting("l");
        for (int k = 0; k < 3; k++) {
            y.net.run(100);
        }
        y.net.run(99);
        Net.due("399", "399 1 0 0 0 1", y.counts());
        Net.due("two more", Net.STATE, () -> y.net.run(2));
        Net.due("one is done", "400 1 0 0 0 3", y.counts());
    }

    private static void endsAtFourHundred() {
        Net x = counting("d(99),d(99),e,e");
        for (int k = 0; k < 3; k++) {
            Net.due("run", 0, () -> x.net.run(100));
        }
        Net.due("ENDED with the last that may be", 1, () -> x.net.run(100));
        Net.due("again, no STEP is needed", 1, () -> x.net.run(100));
        Net.due("it can be run", "400 1", x.net.count(3) + " " + x.net.count(8));
    }

    private static void standsAtFourHundred() {
        Net x = counting("d(99),d(99),w(A),w(B)");
        Net.due("STANDS", "2", x.outcome());
        Net.due("again, no STEP is needed", 2, () -> x.net.run(100));
        Net.due("it can be run", "400 1", x.net.count(3) + " " + x.net.count(8));
    }

    private static void failsAtFourHundred() {
        Net x = counting("d(99),d(99),e,z^0");
        Net.due("FAILED, not TOO MUCH", Net.FAILED, x.outcome());
        Net.due("with the last that may be", "400 2", x.net.count(3) + " " + x.net.count(8));
        Net y = counting("d(99),d(99),e,e,z^0");
        Net.due("TOO MUCH, not FAILED", Net.STATE, y.outcome());
        Net.due("it isn't done", "400 1 3",
                y.net.count(3) + " " + y.net.count(4) + " " + y.net.count(8));
    }

    /** "for a QUESTION" */
    private static void fourHundredForEach() {
        Net x = counting("d(99),d(99),e,e");
        Net.due("400", "1", x.outcome());
        x.question("d(99),d(99),e,e");
        Net.due("none of them yet", 0, x.net.count(3));
        Net.due("400 again", "1", x.outcome());
        x.question("l").outcome();
        x.question("d(99),d(99),e,e");
        Net.due("and after TOO MUCH", "1", x.outcome());
    }

    /** Each STEP of r brings one GOAL more: 59, 60, 61. */
    private static void sixtyInRows() {
        Net x = Net.of("r|s^0,r").question("r");
        Net.due("run", 0, () -> x.net.run(58));
        Net.due("59", "58 59 0 0 0 1", x.counts());
        Net.due("run", 0, () -> x.net.run(1));
        Net.due("60", "59 60 0 0 0 1", x.counts());
        Net.due("61", Net.STATE, () -> x.net.run(1));
        Net.due("60 are there", "60 60 0 0 0 3", x.counts());
        Net.due("the last wasn't put", "60 0 0 0", x.rows());
    }

    private static void sixtyInAllRows() {
        Net x = Net.of("r|a^0,b^1,c^2,r").question("r^3");
        Net.due("run", 0, () -> x.net.run(19));
        Net.due("58", "19 19 19 1", x.rows());
        Net.due("62", Net.STATE, () -> x.net.run(1));
        Net.due("60 are there", "20 20 20 0", x.rows());
        Net.due("all ROWS count", 60, x.net.count(4));
    }

    /** With n asleep t takes one and puts three; t(0) as many as are told. */
    private static Net sleepers(int many, String last) {
        return Net.of("t(N):0<N|w(X),M#N-1,t(M)", "t(0)" + last, "w(1)")
                .question("t(" + many + ")");
    }

    private static void sixtyAsleep() {
        Net x = sleepers(58, "|w(X)");
        Net.due("59 asleep", "2", x.outcome());
        Net.due("asleep", "0 59", x.net.count(4) + " " + x.net.count(5));
        x = sleepers(58, "|w(X),w(Y)");
        Net.due("60 asleep", "2", x.outcome());
        Net.due("asleep", "0 60", x.net.count(4) + " " + x.net.count(5));
        Net.due("it can be run", "2 1", x.net.run(1) + " " + x.net.count(8));
        x = sleepers(58, "|w(X),w(Y),w(Z)");
        Net.due("61", Net.STATE, x.outcome());
        Net.due("two are put", "2 58 3",
                x.net.count(4) + " " + x.net.count(5) + " " + x.net.count(8));
    }

    private static void someAsleepSomeInRows() {
        Net.due("59 at the most", "2", sleepers(57, "").outcome());
        Net x = sleepers(58, "");
        Net.due("60 at the most", "2", x.outcome());
        Net.due("58 stay", 58, x.net.count(5));
        x = sleepers(59, "");
        Net.due("61", Net.STATE, x.outcome());
        Net.due("two are put", "2 58 3",
                x.net.count(4) + " " + x.net.count(5) + " " + x.net.count(8));
    }

    /** With 60 there a STEP that brings one GOAL for the one it took is none too many. */
    private static void fullGoesOn() {
        Net x = Net.of("r|s^0,r").question("r");
        x.net.run(59);
        x.drop(0);
        x.text("r|r").net.add();
        Net.due("run", 0, () -> x.net.run(100));
        Net.due("60 all the time", "159 60 0 0 0 1", x.counts());
        x.drop(0);
        x.text("r").net.add();
        x.text("s|s").net.add();
        Net.due("run", 0, () -> x.net.run(100));
        Net.due("and 59", "259 59 0 0 0 1", x.counts());
    }

    /** With 60 there one that goes to sleep, and 59 that wake at once, are none too many. */
    private static void fullSleepsAndWakes() {
        Net x = Net.of("t(N,X):0<N|w(X),M#N-1,t(M,X)", "t(0,X)|w(X),w(X)", "w(1)", "z(X)|X=1")
                .question("z(A)^0,t(57,A)");
        // Three STEPS for each of 57, and three for the last two sleepers.
        x.net.run(100);
        x.net.run(74);
        Net.due("59 asleep, one in a ROW", "1 59", x.net.count(4) + " " + x.net.count(5));
        Net.due("all on A", 59, x.sleepers('A'));
        Net.due("z brings one", 0, () -> x.net.run(1));
        Net.due("60 still", "1 59", x.net.count(4) + " " + x.net.count(5));
        Net.due("A is WRITTEN", 0, () -> x.net.run(1));
        Net.due("all wake", "59 0 0", x.net.count(4) + " " + x.net.count(5) + " "
                + x.sleepers('A'));
        Net.due("ENDS", "1", x.outcome());
    }

    /** The GOALS before the one that is one too many are put, in order. */
    private static void whatIsPutBefore() {
        Net x = Net.of("r|s^0,r").question("r");
        x.net.run(57);
        x.drop(0);
        x.text("r|a^3,b^2,c^1,d^0").net.add();
        Net.due("57 and four", Net.STATE, () -> x.net.run(1));
        Net.due("three are put", "57 1 1 1", x.rows());
        Net.due("the STEP counts", "58 60 0 0 0 3", x.counts());
    }

    /** Just one GOAL too many, and it's the first of them. */
    private static void sixtyWithOne() {
        Net x = Net.of("r|s^0,r").question("r");
        x.net.run(59);
        x.drop(0);
        x.text("r|a,b").net.add();
        Net.due("59 and two", Net.STATE, () -> x.net.run(1));
        Net.due("one is put", "59 1 0 0", x.rows());
        Net y = Net.of("r|s^0,r").question("r");
        y.net.run(58);
        y.drop(0);
        y.text("r|a^0,b^0").net.add();
        Net.due("58 and two", 0, () -> y.net.run(1));
        Net.due("both are put", "60 0 0 0", y.rows());
    }
}
