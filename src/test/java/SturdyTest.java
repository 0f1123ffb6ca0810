import java.util.NoSuchElementException;

/** Calls in any order with any arguments: only the document's exceptions, and limits kept. */
public final class SturdyTest {
    private static final String[] CLAUSES = {
        "a(X)|b(X,Y),c(Y)^2", "a(f(X))|a(X)", "b(X,Y)|Y=f(X)", "b(X,X)|X=g(X,X)", "c(X):X~1|a(X)",
        "c(X)|X#1+2", "d|d,d,a(X)", "c(f(X)):X<3|c(X)", "b(1,Y):f(Y)=f(Y)|d^3", "a(X):X=f(X)|c(X)",
        "p(N,S)|M#N+1,S=c(N,T),p(M,T)", "q(c(X,Y),Z)|Z=c(X,W),q(Y,W)^3", "a(X):Q<X|d", "d"
    };
    private static final String[] QUESTIONS = {
        "a(A),b(A,B),c(B)", "d", "p(0,S),q(S,R)^2", "A=f(A),a(A)", "b(A,A),b(A,B)", "q(S,R),p(1,S)",
        "A=g(A,A),B=g(B,B),b(A,B)", "c(A)^3,A=B,B=f(C),C=2", "A#B*C,B#1+1,C#B-9,a(f(f(A)))"
    };
    private static final String CHARACTERS = "aabcdfgpqABXY0123(((),,,)))=#+-*<~^:|";

    // The same numbers each time, so that what is found can be found again.
    private long seed = 20261115;

    public static void main(String[] args) {
        SturdyTest test = new SturdyTest();
        for (int run = 0; run < 3000; run++) {
            test.object(run);
        }
        Net.end();
    }

    private int below(int bound) {
        seed = seed * 6364136223846793005L + 1442695040888963407L;
        return (int) ((seed >>> 33) % bound);
    }

    private void object(int run) {
        Net x = new Net();
        String last = "new";
        try {
            for (int k = 0; k < 300; k++) {
                last = call(x);
                limits(x, run);
            }
            Net.due("run " + run, "as promised", "as promised");
        } catch (RuntimeException thrown) {
            Net.due("run " + run + ", " + last, "as promised", thrown);
        }
    }

    private String call(Net x) {
        int v = below(30) - 2;
        int i = below(90) - 4;
        switch (below(9)) {
            case 0: return allow(() -> x.net.type(bytes()), Net.BAD, Net.STATE);
            case 1: write(x, CLAUSES[below(CLAUSES.length)]);
                return allow(() -> x.net.add(), Net.BAD, Net.STATE);
            case 2: write(x, QUESTIONS[below(QUESTIONS.length)]);
                return allow(() -> x.net.ask(), Net.BAD);
            case 3: return allow(() -> {
                x.net.drop(i / 4);
                return 0;
            }, Net.BAD);
            case 4: return allow(() -> x.net.letter(v, i), Net.BAD, Net.NO_SUCH);
            case 5: return allow(() -> x.net.sleeping(v), Net.BAD);
            case 6: return allow(() -> x.net.count(i));
            default: return allow(() -> x.net.run(i + 2), Net.BAD, Net.STATE, Net.FAILED);
        }
    }

    private void write(Net x, String text) {
        if (below(4) != 0) {
            Net.answerOf(() -> x.net.count(1) == 0 ? 0 : x.net.ask());
            x.text(text);
        }
    }

    private long bytes() {
        long eight = 0;
        for (int k = below(9); k > 0; k--) {
            int character = below(40) == 0 ? below(256) : CHARACTERS.charAt(below(37));
            eight = eight << 8 | character;
        }
        return eight;
    }

    private static String allow(Net.Call call, String... allowed) {
        try {
            return Long.toString(call.answer());
        } catch (IllegalArgumentException | IllegalStateException | UnsupportedOperationException
                | NoSuchElementException thrown) {
            String name = thrown.getClass().getSimpleName();
            for (String each : allowed) {
                if (each.equals(name)) {
                    return name;
                }
            }
            throw new RuntimeException(name + " isn't promised here", thrown);
        }
    }

    private static void limits(Net x, int run) {
        int rows = 0;
        for (int level = 10; level < 14; level++) {
            rows += x.net.count(level);
        }
        boolean kept = rows == x.net.count(4) && rows + x.net.count(5) <= 60
                && x.net.count(3) <= 400 && x.net.count(2) <= 12 && x.net.count(1) <= 48
                && x.net.count(0) <= 48 && x.net.count(7) <= x.net.count(3);
        if (!kept) {
            Net.due("run " + run + ": limits", "kept", x.counts() + " rows " + x.rows());
        }
    }
}
