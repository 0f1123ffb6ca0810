/** Promise 8: how many GOALS sleep on a VARIABLE. */
public final class SleepingTest {
    public static void main(String[] args) {
        Net x = Net.of("w(1)", "v(1,X)", "v(X,1)");
        for (int v : new int[] {-1, 26, Integer.MIN_VALUE, Integer.MAX_VALUE}) {
            Net.due("sleeping(" + v + ")", Net.BAD, () -> x.net.sleeping(v));
        }
        Net.due("no QUESTION", -1, () -> x.net.sleeping(25));
        x.question("w(A),w(A),v(A,B),v(C,D),E=1,Z#C+C");
        Net.due("none yet", "0 0 0 0 0 0", all(x, "ABCDEZ"));
        Net.due("stands", "2", x.outcome());
        Net.due("as many as sleep", "3 1 2 1 0 0", all(x, "ABCDEZ"));
        Net.due("not in it", -1, () -> x.net.sleeping('F' - 'A'));
        Net.due("v above", Net.BAD, () -> x.net.sleeping(26));
        standsFor();
        afterFailed();
        Net.end();
    }

    private static void standsFor() {
        Net x = Net.of("w(1)").question("A=B,w(B),C=f(A)");
        Net.due("stands", "2", x.outcome());
        Net.due("what they stand for", "1 1 0", all(x, "ABC"));
        x.question("w(A),A=1").outcome();
        Net.due("no VARIABLE", "0", all(x, "A"));
    }

    private static void afterFailed() {
        Net x = Net.of("w(1)").question("w(A),1=2");
        Net.due("fails", Net.FAILED, x.outcome());
        Net.due("sleepers stay", "1", all(x, "A"));
        x.question("A=A");
        Net.due("none in a new QUESTION", "0", all(x, "A"));
    }

    private static String all(Net x, String variables) {
        StringBuilder text = new StringBuilder();
        for (char variable : variables.toCharArray()) {
            text.append(text.length() == 0 ? "" : " ").append(x.sleepers(variable));
        }
        return text.toString();
    }
}
