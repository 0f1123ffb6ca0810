import java.lang.management.ManagementFactory;

/** All calls of one run live in one room: the dearest runs must leave most of it free. */
public final class RoomTest {
    private static final int CALLS = 512;
    // 7.3 million fields and elements of four bytes are 29 million bytes; a quarter is plenty.
    private static final long MOST_BYTES = 7_000_000;

    private static final com.sun.management.ThreadMXBean THREADS =
            (com.sun.management.ThreadMXBean) ManagementFactory.getThreadMXBean();

    public static void main(String[] args) {
        // Each once for the classes to be there, then again to be measured.
        for (int k = 0; k < 2; k++) {
            boolean measured = k == 1;
            look("many TERMS", measured, () -> longRuns("|l(c(c(1,2,c(3,c,5)),6,c(7,8,9)))"));
            look("many VARIABLES", measured, () -> longRuns("|l(c(c(A,B,C),c(D,E,F),c(G,H,I)))"));
            look("many GUARDS", measured, () -> longRuns(":c(1,2,3)=c(1,2,3),f~2,1~2|l(1)"));
            look("many GOALS", measured, () -> longRuns("|l(1)^0,A=1,B=2,C=3,D=4,E=5,F=6"));
            look("long texts", measured, RoomTest::longTexts);
            look("CLAUSES in and out", measured, RoomTest::clauses);
            look("new objects", measured, RoomTest::objects);
        }
        Net.end();
    }

    private static void look(String what, boolean measured, Runnable calls) {
        long before = THREADS.getCurrentThreadAllocatedBytes();
        calls.run();
        long bytes = THREADS.getCurrentThreadAllocatedBytes() - before;
        if (measured) {
            System.out.println(what + ": " + bytes + " bytes");
            Net.due(what + " is dear", true, bytes < MOST_BYTES);
        }
    }

    private static void longRuns(String behindTheHead) {
        Net x = new Net();
        for (int k = 0; k < 12; k++) {
            // Eleven that are tried for nothing, then the one that is taken.
            x.text((k < 11 ? "l(7)" : "l(X)") + behindTheHead).net.add();
        }
        for (int calls = 80; calls < CALLS; calls += 6) {
            x.question("l(1)");
            for (int k = 0; k < 4; k++) {
                x.net.run(100);
            }
        }
        Net.due("STEPS with " + behindTheHead, 400, x.net.count(3));
    }

    private static void longTexts() {
        Net x = new Net().question("A=f(A,A,A)");
        x.net.run(1);
        for (int k = 3; k < CALLS; k++) {
            x.net.letter(0, 79);
        }
    }

    private static void clauses() {
        Net x = new Net();
        for (int k = 0; k < CALLS; k += 7) {
            x.text("a(1,2,3):1<2,1<2,1<2,1<2|X=1,X=1,X=1,X=1,X=1,X=2");
            x.net.add();
            if (x.net.count(2) == 12) {
                x.net.drop(0);
            }
        }
    }

    private static void objects() {
        for (int k = 0; k < CALLS / 4; k++) {
            Net.of("l|l,A=1").question("l").net.run(100);
        }
    }
}
