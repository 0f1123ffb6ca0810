/** Promise 1: no CLAUSES, no QUESTION. */
public final class NewObjectTest {
    public static void main(String[] args) {
        Net x = new Net();
        Net.due("no place", -1, () -> x.net.count(0));
        for (int what = 1; what <= 8; what++) {
            int asked = what;
            Net.due("count(" + what + ")", 0, () -> x.net.count(asked));
        }
        Net.due("rows", "0 0 0 0", x.rows());
        Net.due("run", Net.STATE, () -> x.net.run(1));
        Net.due("letter", Net.NO_SUCH, () -> x.net.letter(0, -1));
        Net.due("sleeping", -1, () -> x.net.sleeping(0));
        Net.due("drop", Net.BAD, () -> {
            x.net.drop(0);
            return 0;
        });
        Net other = Net.of("a").question("a");
        Net.due("objects share nothing", 0, () -> x.net.count(2) + x.net.count(8));
        Net.due("the other has its own", "1", other.outcome());
        Net.end();
    }
}
