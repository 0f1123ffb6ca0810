/** Promise 4: drop. */
public final class EdgesOfDropTest {
    public static void main(String[] args) {
        isNotThere();
        eachOfTwelve();
        untilNone();
        goalsThatAreThere();
        Net.end();
    }

    private static Net with(int clauses) {
        Net x = new Net();
        for (int k = 0; k < clauses; k++) {
            x.text("c(R)|R=" + k).net.add();
        }
        return x;
    }

    /** The one that is tried first, by what it writes. */
    private static String first(Net x) {
        String outcome = x.question("c(A)").outcome();
        return outcome.equals("1") ? x.shows('A') : outcome;
    }

    /** "It isn't there: bad." */
    private static void isNotThere() {
        for (int there : new int[] {0, 1, 2, 11, 12}) {
            Net x = with(there);
            int[] wrong = {-1, there, there + 1, 12, 13, Integer.MIN_VALUE, Integer.MAX_VALUE};
            for (int i : wrong) {
                Net.due("drop(" + i + ") of " + there, Net.BAD, () -> x.drop(i));
                Net.due("all are there", there, x.net.count(2));
            }
            if (there > 0) {
                Net.due("the last", 0, () -> x.drop(there - 1));
                Net.due("it isn't any more", Net.BAD, () -> x.drop(there - 1));
                Net.due("one less", there - 1, x.net.count(2));
            }
        }
    }

    /** "CLAUSE i (from 0) goes." */
    private static void eachOfTwelve() {
        for (int i = 0; i < 12; i++) {
            Net x = with(12);
            x.drop(i);
            StringBuilder left = new StringBuilder();
            StringBuilder due = new StringBuilder();
            for (int k = 0; k < 12; k++) {
                due.append(k == i ? "" : k + " ");
            }
            for (int k = 0; k < 11; k++) {
                left.append(first(x)).append(' ');
                x.drop(0);
            }
            Net.due("all but " + i, due, left);
        }
    }

    private static void untilNone() {
        Net x = with(2);
        x.drop(0);
        Net.due("the second is the first", "1", first(x));
        x.drop(0);
        Net.due("none is left", Net.FAILED, first(x));
        Net.due("none to drop", Net.BAD, () -> x.drop(0));
        x.text("c(R)|R=7").net.add();
        Net.due("one again", "7", first(x));
    }

    /** A GOAL that a CLAUSE brought in is there without it. */
    private static void goalsThatAreThere() {
        Net x = Net.of("c(R)|d(R)", "d(R)|R=5").question("c(A)");
        x.net.run(1);
        x.drop(0);
        Net.due("goes on", "1", x.outcome());
        Net.due("as it stood", "5", x.shows('A'));
    }
}
