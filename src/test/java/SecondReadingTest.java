/** Runs of calls, made up by chance, on the class and on Plain: each answer is the same. */
public final class SecondReadingTest {
    private static final int RUNS = 4000;
    private static final int CALLS = 512;

    private static final String[] CLAUSES = {
        "p(N,M,S):N<M|S=c(N,T),K#N+1,p(K,M,T)", "p(N,N,S)|S=n", "s(n,A,R)|R=A",
        "s(c(X,Y),A,R)|B#A+X,s(Y,B,R)^2", "m(c(X,Y),B,C)|C=c(X,D),m(B,Y,D)",
        "m(A,c(X,Y),C)|C=c(X,D),m(A,Y,D)", "m(n,B,C)|C=B", "m(A,n,C)|C=A",
        "a|a,a,b(X)^2", "a|b(X)^0,b(Y),a^3", "b(X):X~Y", "b(1)", "b(X):X=X|X=f(Y,Y)",
        "d(X,X,X)|b(X)", "d(X,Y,Z):X=Y,Y~Z|Z=c(X,Y)", "e(X,Y):X<Y|Y=Z,Z=X", "e(X,X)|a^1",
        "w(1)", "w(f(X))|w(X)", "w(c(X,Y))|w(X)^0,w(Y)^3", "z(X)|X=c(Y,Y),z(Y)"
    };
    private static final String[] QUESTIONS = {
        "s(L,0,R),p(1,9,L)", "m(A,B,C),p(1,5,A),p(3,7,B)", "p(0,99,L),s(L,0,R)^3", "a", "a^3,b(A)",
        "d(A,B,C),A=B,C=A", "w(A)^2,w(B),A=f(B),B=C,C=1", "A=f(A),B=f(B),d(A,B,C)", "e(A,B),A=1,B=2",
        "z(A),z(B),d(A,B,C)", "z(A),z(B),A=B", "w(D),w(C),w(B),w(A),f(A,B,C)=f(D,C,B),A=1",
        "z(A)^3,d(A,A,A)", "A=c(A,B),B=c(B,A),w(B)", "A=c(B,B),B=c(C,C),C=c(D,D),D=c(E,E),d(A,A,A)"
    };
    // The letters of CALLS; the place tells how many ARGUMENTS one mostly has.
    private static final String CALLED = "abde";
    private static final String INNER = "fgn";
    private static final String CAPITALS = "AABBCDXYZ";

    // The same numbers each time, so that what is found can be found again.
    private long seed = 20261117;
    private GuardNet net;
    private Plain plain;
    private int calls;
    private boolean same;
    private StringBuilder story;

    public static void main(String[] args) {
        SecondReadingTest test = new SecondReadingTest();
        for (int run = 1; run <= RUNS; run++) {
            test.run(run);
        }
        Net.end();
    }

    private int below(int bound) {
        seed = seed * 6364136223846793005L + 1442695040888963407L;
        return (int) ((seed >>> 33) % bound);
    }

    private char oneOf(String characters) {
        return characters.charAt(below(characters.length()));
    }

    private String oneOf(String[] texts) {
        return texts[below(texts.length)];
    }

    private void run(int number) {
        net = new GuardNet();
        plain = new Plain();
        calls = 0;
        same = true;
        story = new StringBuilder();
        boolean known = below(3) == 0;
        for (int k = below(13); k > 0; k--) {
            clause(known);
        }
        for (int k = 1 + below(6); k > 0; k--) {
            question(known);
            change(known);
        }
        Net.due("run " + number + story, true, same);
    }

    private void clause(boolean known) {
        text(known ? oneOf(CLAUSES) : head() + guards() + body());
        both("add", net::add, plain::add);
    }

    private void question(boolean known) {
        text(known ? oneOf(QUESTIONS) : goals(1 + below(4)));
        both("ask", net::ask, plain::ask);
        look();
        for (int k = 1 + below(12); k > 0 && net.count(8) == 1; k--) {
            int n = below(30) == 0 ? below(104) - 2 : below(3) == 0 ? 100 : 1 + below(5);
            both("run " + n, () -> net.run(n), () -> plain.run(n));
            look();
        }
        both("run 1", () -> net.run(1), () -> plain.run(1));
    }

    private void change(boolean known) {
        if (below(3) == 0) {
            int i = below(14) - 1;
            both("drop " + i, () -> {
                net.drop(i);
                return 0;
            }, () -> plain.drop(i));
        }
        if (below(3) == 0) {
            clause(known);
        }
    }

    /** The next call on both; nothing behind the first that differs, or the last promised. */
    private void both(String call, Net.Call first, Net.Call second) {
        if (!same || calls >= CALLS) {
            return;
        }
        calls++;
        String got = Net.answerOf(first);
        String due = Net.answerOf(second);
        same = got.equals(due);
        story.append(same ? "; " : "; WRONG: ").append(call).append(" -> ").append(got);
        if (!same) {
            story.append(", due is ").append(due);
        }
    }

    private void look() {
        for (int what = below(3) - 1; what <= 14; what += 1 + below(3)) {
            int each = what;
            both("count " + each, () -> net.count(each), () -> plain.count(each));
        }
        for (int k = 0; k < 4; k++) {
            int v = below(30) == 0 ? below(30) - 2 : oneOf(CAPITALS) - 'A';
            int i = below(4) == 0 ? below(85) - 3 : below(5) - 1;
            both("letter " + v + " " + i, () -> net.letter(v, i), () -> plain.letter(v, i));
            both("sleeping " + v, () -> net.sleeping(v), () -> plain.sleeping(v));
        }
    }

    // Texts, mostly right.

    private void text(String right) {
        String text = below(12) == 0 ? spoilt(right) : right;
        int size;
        for (int at = 0; at < text.length(); at += size) {
            size = below(20) == 0 ? 1 + below(8) : 8;
            long eight = Net.eight(text.substring(at, Math.min(at + size, text.length())));
            both("type " + text.substring(at, Math.min(at + size, text.length())),
                    () -> net.type(eight), () -> plain.type(eight));
        }
    }

    private String spoilt(String text) {
        int at = below(text.length());
        char other = below(6) == 0 ? (char) below(256) : oneOf("aA1(),=#+^:|<~2b");
        return text.substring(0, at) + other + text.substring(at + below(2));
    }

    private String term(int depth) {
        int kind = below(8);
        if (kind < 4) {
            return String.valueOf(oneOf(CAPITALS));
        }
        if (kind < 6 || depth >= 4) {
            return String.valueOf(below(4) == 0 ? below(100) : below(3));
        }
        return with(oneOf(INNER), below(below(3) == 0 ? 4 : 2), depth);
    }

    private String with(char letter, int parts, int depth) {
        StringBuilder term = new StringBuilder().append(letter);
        for (int k = 0; k < parts; k++) {
            term.append(k == 0 ? '(' : ',').append(term(depth + 1));
        }
        return term.append(parts == 0 ? "" : ")").toString();
    }

    private String head() {
        int which = below(CALLED.length());
        return with(CALLED.charAt(which), below(20) == 0 ? below(4) : which, 1);
    }

    private String guards() {
        StringBuilder guards = new StringBuilder();
        for (int k = Math.max(0, below(4) - 2); k > 0; k--) {
            guards.append(guards.length() == 0 ? ':' : ',');
            guards.append(term(3)).append(oneOf("<==~~")).append(term(3));
        }
        return guards.toString();
    }

    private String body() {
        return below(4) == 0 ? "" : "|" + goals(1 + below(4));
    }

    private String goals(int many) {
        StringBuilder goals = new StringBuilder(goal());
        for (int k = 1; k < many; k++) {
            goals.append(',').append(goal());
        }
        return goals.toString();
    }

    private String goal() {
        int kind = below(8);
        if (kind < 3) {
            return term(2) + "=" + term(2);
        }
        if (kind == 3) {
            return oneOf(CAPITALS) + "#" + term(3) + oneOf("+-*") + term(3);
        }
        return head() + (below(4) == 0 ? "^" + below(4) : "");
    }
}
