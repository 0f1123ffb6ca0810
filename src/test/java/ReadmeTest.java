/** The use that README.md shows answers what it says there. */
public final class ReadmeTest {
    public static void main(String[] args) {
        GuardNet net = new GuardNet();
        type(net, "p(N,M,S):N<M|S=c(N,T),K#N+1,p(K,M,T)");
        Net.due("the first clause", 1, net.add());
        type(net, "p(N,N,S)|S=n");
        net.add();
        type(net, "s(c(X,Y),A,R)|B#A+X,s(Y,B,R)");
        net.add();
        type(net, "s(n,A,R)|R=A");
        net.add();
        type(net, "s(L,0,R),p(1,5,L)");
        Net.due("the question", 2, net.ask());
        Net.due("a step", 0, net.run(1));
        Net.due("s sleeps on L", 1, net.sleeping('L' - 'A'));
        Net.due("the end", 1, net.run(100));
        Net.due("the sum's length", 2, net.letter('R' - 'A', -1));
        Net.due("the sum's first character", 49, net.letter('R' - 'A', 0));
        texts();
        Net.end();
    }

    private static void type(GuardNet net, String text) {
        for (int at = 0; at < text.length(); at += 8) {
            long eight = 0;
            for (int k = at; k < Math.min(at + 8, text.length()); k++) {
                eight = eight << 8 | text.charAt(k);
            }
            net.type(eight);
        }
    }

    private static void texts() {
        Net.due("the clause", 1, Net.asClause("h(X,Y):X<9,X~Y|g,g"));
        for (String goal : new String[] {"a(X)", "a(X)^3", "X=f(Y)", "X#Y+1", "X#Y-1", "X#Y*2",
            "a(B,c(1))"}) {
            Net.due("the goal " + goal, 1, Net.asQuestion(goal));
        }
    }
}
