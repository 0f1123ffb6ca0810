/** Promise 9: what can be counted. */
public final class CountTest {
    public static void main(String[] args) {
        elsewhere();
        place();
        ofTheQuestion();
        states();
        Net.end();
    }

    private static void elsewhere() {
        Net x = Net.of("w(1)").question("w(A),w(1)^3");
        for (int what : new int[] {-1, -2, 9, 14, 15, 100, Integer.MIN_VALUE, Integer.MAX_VALUE}) {
            Net.due("count(" + what + ")", -1, () -> x.net.count(what));
        }
        x.net.run(9);
        Net.due("count(9)", -1, () -> x.net.count(9));
    }

    private static void place() {
        Net x = new Net();
        Net.due("none", -1, () -> x.net.count(0));
        x.text("a(");
        Net.due("bad", Net.BAD, () -> x.net.add());
        Net.due("of add()", 2, () -> x.net.count(0));
        Net.due("bad", Net.BAD, () -> x.net.ask());
        Net.due("of ask()", 0, () -> x.net.count(0));
        x.text("a(1,");
        Net.due("bad", Net.BAD, () -> x.net.ask());
        x.question("a");
        x.text("b").net.add();
        Net.due("of the latest that couldn't", 4, () -> x.net.count(0));
        Net.due("a bad byte is no text", Net.BAD, () -> x.net.type(7));
        Net.due("still that", 4, () -> x.net.count(0));
        x.text("abc");
        Net.due("the text", 3, () -> x.net.count(1));
        Net.due("CLAUSES", 1, () -> x.net.count(2));
    }

    private static void ofTheQuestion() {
        Net x = Net.of("w(1)", "a(X)|w(Y),w(Z)^3,w(Y),w(1)^0").question("a(A),w(B)^2,w(1)");
        Net.due("asked", "0 3 0 2 0 1", x.counts());
        Net.due("rows", "0 2 1 0", x.rows());
        x.net.run(1);
        Net.due("one sleeps", "1 2 1 2 1 1", x.counts());
        x.net.run(1);
        Net.due("a is taken", "2 5 1 4 1 1", x.counts());
        Net.due("rows", "1 3 0 1", x.rows());
        x.net.run(100);
        Net.due("stands", "7 0 4 4 4 1", x.counts());
        Net.due("rows", "0 0 0 0", x.rows());
    }

    private static void states() {
        Net x = Net.of("l|l", "w(1)");
        Net.due("none", 0, () -> x.net.count(8));
        x.question("w(1)");
        Net.due("can be run", 1, () -> x.net.count(8));
        x.outcome();
        Net.due("ENDED can be run", 1, () -> x.net.count(8));
        x.question("w(A)").outcome();
        Net.due("STANDS can be run", 1, () -> x.net.count(8));
        x.question("w(2)").outcome();
        Net.due("FAILED", 2, () -> x.net.count(8));
        x.question("l").outcome();
        Net.due("TOO MUCH", 3, () -> x.net.count(8));
        x.question("l");
        Net.due("can be run", 1, () -> x.net.count(8));
    }
}
