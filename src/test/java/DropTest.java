/** Promise 4: a CLAUSE goes. */
public final class DropTest {
    public static void main(String[] args) {
        Net x = Net.of("a(X)|X=0", "a(X)|X=1", "a(X)|X=2");
        Net.due("below", Net.BAD, () -> drop(x, -1));
        Net.due("behind", Net.BAD, () -> drop(x, 3));
        Net.due("far", Net.BAD, () -> drop(x, Integer.MAX_VALUE));
        Net.due("least", Net.BAD, () -> drop(x, Integer.MIN_VALUE));
        Net.due("all are there", 3, () -> x.net.count(2));
        Net.due("the middle one", 0, () -> drop(x, 1));
        Net.due("two are there", 2, () -> x.net.count(2));
        Net.due("only two", Net.BAD, () -> drop(x, 2));
        Net.due("the first", 0, () -> drop(x, 0));
        x.question("a(Q)").outcome();
        Net.due("the last is left", "2", x.shows('Q'));
        Net.due("the last", 0, () -> drop(x, 0));
        Net.due("none", Net.BAD, () -> drop(x, 0));
        x.question("a(Q)");
        Net.due("no CLAUSE for it", Net.FAILED, x.outcome());
        sleepersSeeWhatIsThere();
        Net.end();
    }

    private static long drop(Net x, int i) {
        x.net.drop(i);
        return 0;
    }

    private static void sleepersSeeWhatIsThere() {
        Net x = Net.of("w(1)").question("w(A),v(A)^0");
        x.net.run(1);
        x.net.drop(0);
        x.text("v(X)|X=1").net.add();
        Net.due("a sleeper doesn't wake by it", "1 1 1 1 1 1", x.counts());
        Net.due("it wakes to no CLAUSE", Net.FAILED, x.outcome());
    }
}
