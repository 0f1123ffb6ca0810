/** "Terms": what a TERM, a CLAUSE, a GOAL and a text may just be, and just may not. */
public final class EdgesOfTermsTest {
    public static void main(String[] args) {
        variables();
        numbers();
        letters();
        parts();
        depth();
        depthEverywhere();
        depthIsOfTheText();
        calls();
        wrapping();
        wrappedNumbersAreInts();
        partsOfAClause();
        guards();
        goals();
        reckonings();
        levels();
        lengthOfAText();
        Net.end();
    }

    /** "a VARIABLE A .. Z" */
    private static void variables() {
        question("@=1", "bad at 0");
        question("A=1", "1");
        question("Z=1", "1");
        question("[=1", "bad at 0");
        Net x = new Net().question("A=f(Z),Z=1");
        Net.due("runs", "1", x.outcome());
        Net.due("the first and the last", "f(1) 1", x.shows('A') + " " + x.shows('Z'));
    }

    /** "a NUMBER, 0 to 99 as it is written (one or two digits)" */
    private static void numbers() {
        question("/=1", "bad at 0");
        question(":=1", "bad at 0");
        question("A=", "bad at 2");
        for (String digits : new String[] {"0", "1", "9", "10", "98", "99", "00", "01", "09"}) {
            Net x = new Net().question("A=" + digits + "," + digits + "=B");
            Net.due("runs", "1", x.outcome());
            String value = Integer.toString(Integer.parseInt(digits));
            Net.due(digits, value + " " + value, x.shows('A') + " " + x.shows('B'));
        }
        question("A=100", "bad at 4");
        question("A=000", "bad at 4");
        question("100=A", "bad at 2");
        question("A=-1", "bad at 2");
        question("A#100+1", "bad at 4");
        question("A#1+100", "bad at 6");
        clause("a(99,100)", "bad at 7");
        clause("a:100<1", "bad at 4");
    }

    /** "a letter a .. z" */
    private static void letters() {
        question("`", "bad at 0");
        question("a", "1");
        question("z", "1");
        question("{", "bad at 0");
        clause("`", "bad at 0");
        clause("a", "1");
        clause("z", "1");
        clause("{", "bad at 0");
        question("ab", "bad at 1");
        clause("a(bc)", "bad at 3");
    }

    /** "alone or with 1 to 3 ARGUMENTS, TERMS, in ( ) with , between" */
    private static void parts() {
        clause("a()", "bad at 2");
        clause("a(1)", "1");
        clause("a(1,2)", "1");
        clause("a(1,2,3)", "1");
        clause("a(1,2,3,4)", "bad at 7");
        clause("a(1,2,3,)", "bad at 7");
        clause("a(1,)", "bad at 4");
        clause("a(,1)", "bad at 2");
        clause("a(1;2)", "bad at 3");
        question("a(b())", "bad at 4");
        question("a(b(1,2,3),c(1,2,3),d(1,2,3))", "1");
        question("a(b(1,2,3),c(1,2,3),d(1,2,3,4))", "bad at 27");
        Net x = new Net().question("A=f(1),B=f(1,2),C=f(1,2,3),D=f");
        Net.due("runs", "1", x.outcome());
        Net.due("all are there", "f(1) f(1,2) f(1,2,3) f", x.shows('A') + " " + x.shows('B')
                + " " + x.shows('C') + " " + x.shows('D'));
    }

    /** "TERMS stand at most 5 deep in one another (the outermost at depth 1)." */
    private static void depth() {
        clause("a(b(c(d)))", "1");
        clause("a(b(c(d(e))))", "1");
        clause("a(b(c(d(E))))", "1");
        clause("a(b(c(d(55))))", "1");
        clause("a(b(c(d(e,f,g))))", "1");
        clause("a(b(c(d(e(f)))))", "bad at 9");
        clause("a(b(c(d(e()))))", "bad at 9");
        clause("a(b(c(d(1,2,e(f)))))", "bad at 13");
        clause("a(b(c(d(e,f))),g(h(i(j))))", "1");
        clause("a(b(c(d(e,f))),g(h(i(j(k)))))", "bad at 22");
    }

    /** The same, wherever a TERM may stand. */
    private static void depthEverywhere() {
        String[] before = {"", "a:", "a:", "a:", "a:1<", "a:1=", "a:1~", "a|", "a|", "a|1=",
            "a|V#", "a|V#", "a|V#", "a|V#1+", "a|V#1-", "a|V#1*", "a:1<2,", "a|b,", "a|b,c^3,"};
        String[] behind = {"", "<1", "=1", "~1", "", "", "", "", "=1", "",
            "+1", "-1", "*1", "", "", "", "=1", "", "=1"};
        for (int k = 0; k < before.length; k++) {
            everyDepth(before[k], behind[k], false);
        }
        everyDepth("", "", true);
        everyDepth("", "^3", true);
        everyDepth("", "=1", true);
        everyDepth("1=", "", true);
        everyDepth("V#", "-1", true);
        everyDepth("V#1-", "", true);
    }

    private static void everyDepth(String before, String behind, boolean asked) {
        String[] terms = {"g", "g(h)", "g(h(i))", "g(h(i(j)))", "g(h(i(j(k))))",
            "g(h(i(j(k(l)))))"};
        for (int k = 0; k < terms.length; k++) {
            String text = before + terms[k] + behind;
            String due = k < 5 ? "1" : "bad at " + (before.length() + 9);
            Net.due(text, due, asked ? Net.asQuestion(text) : Net.asClause(text));
        }
    }

    /** Only what is written has such a depth: what is WRITTEN may stand deeper. */
    private static void depthIsOfTheText() {
        Net x = new Net().question("A=a(b(c(d(B)))),B=a(b(c(d(e))))");
        Net.due("runs", "1", x.outcome());
        Net.due("nine deep", "a(b(c(d(a(b(c(d(e))))))))", x.shows('A'));
    }

    /** "A CALL is a TERM that begins with a letter." */
    private static void calls() {
        question("a,b(1)", "2");
        question("1", "bad at 1");
        question("A", "bad at 1");
        question("a,A,b", "bad at 3");
        question("a,1,b", "bad at 3");
        question("A(1)", "bad at 1");
        question("1(1)", "bad at 1");
        clause("A", "bad at 0");
        clause("1", "bad at 0");
        clause("a|A", "bad at 3");
        clause("a|1", "bad at 3");
    }

    /** "NUMBERS are ints (wrapping) otherwise." */
    private static void wrapping() {
        Net x = new Net().question("A#64*64,B#A*A,C#B*64,D#C-1,E#D+C,F#E+1,G#F-1");
        Net.due("runs", "1", x.outcome());
        Net.due("just not", Integer.MAX_VALUE, x.shows('E'));
        Net.due("one more", Integer.MIN_VALUE, x.shows('F'));
        Net.due("and back", Integer.MAX_VALUE, x.shows('G'));
        x.question("A#64*64,B#A*A,C#B*64,D#C+C,E#D+D,F#0-D,G#D*A");
        Net.due("runs", "1", x.outcome());
        Net.due("2^30", 1 << 30, x.shows('C'));
        Net.due("2^31", Integer.MIN_VALUE, x.shows('D'));
        Net.due("2^32", 0, x.shows('E'));
        Net.due("0 - -2^31", Integer.MIN_VALUE, x.shows('F'));
        Net.due("2^43", 0, x.shows('G'));
        x.question("A#99*99,B#A*A,C#B*99,D#C*99,E#0-D,F#99-99");
        Net.due("runs", "1", x.outcome());
        Net.due("a product", 99 * 99 * 99 * 99 * 99, x.shows('C'));
        Net.due("another", 99 * 99 * 99 * 99 * 99 * 99, x.shows('D'));
        Net.due("its other sign", -(99 * 99 * 99 * 99 * 99 * 99), x.shows('E'));
        Net.due("nothing", 0, x.shows('F'));
    }

    /** The same: the least is below the greatest, and what wraps to a NUMBER is that one. */
    private static void wrappedNumbersAreInts() {
        Net x = Net.of("m(E,F)|A#64*64,B#A*A,C#B*64,D#C-1,E#D+C,F#E+1",
                "l(X,Y,R):X<Y|R=1", "l(X,Y,R)|R=0", "z(0)", "n(X):X<0");
        x.question("m(G,L)^3,l(G,L,A),l(L,G,B),l(G,G,C),l(L,L,D)");
        Net.due("runs", "1", x.outcome());
        Net.due("greatest < least", 0, x.shows('A'));
        Net.due("least < greatest", 1, x.shows('B'));
        Net.due("greatest < greatest", 0, x.shows('C'));
        Net.due("least < least", 0, x.shows('D'));
        x.question("m(G,L)^3,n(L),A#L+L,z(A),B#G+L,C=B,C#0-1");
        Net.due("they MATCH and are SAME", "1", x.outcome());
    }

    /** "CLAUSE: a CALL, its HEAD; then perhaps : and GUARDS ..; then perhaps | and GOALS .." */
    private static void partsOfAClause() {
        clause("", "bad at 0");
        clause("h", "1");
        clause("h:1<2", "1");
        clause("h:1<2,2<3", "1");
        clause("h|g", "1");
        clause("h|g,g", "1");
        clause("h:1<2|g", "1");
        clause("h:", "bad at 2");
        clause("h|", "bad at 2");
        clause("h:|g", "bad at 2");
        clause("h:1<2|", "bad at 6");
        clause("h:1<2,|g", "bad at 6");
        clause("h|g:1<2", "bad at 3");
        clause("h|g|g", "bad at 3");
        clause("h:1<2:1<2", "bad at 5");
        Net.due("without GUARDS and GOALS", "1", Net.of("h").question("h").outcome());
        Net.due("without GOALS", "1", Net.of("h:1<2").question("h").outcome());
        Net.due("without GUARDS", "1", Net.of("h|1=1").question("h").outcome());
    }

    /** "GUARD: T<T, T=T, T~T (not the same)." */
    private static void guards() {
        clause("h:1", "bad at 3");
        clause("h:g", "bad at 3");
        clause("h:g(1)", "bad at 6");
        clause("h:1;2", "bad at 3");
        clause("h:1>2", "bad at 3");
        clause("h:1<2<3", "bad at 5");
        clause("h:1=2=3", "bad at 5");
        clause("h:X#1+2", "bad at 3");
        clause("h:g^1", "bad at 3");
        clause("h:X<a,Y=f(1),1~Z", "1");
    }

    /** "GOAL: T=T (SAME); .. or a CALL"; "QUESTION: GOALS with , between." */
    private static void goals() {
        question("", "bad at 0");
        question(",a", "bad at 0");
        question("a,", "bad at 2");
        question("a,,a", "bad at 2");
        question("a;a", "bad at 1");
        question("a,a", "2");
        question("1=A,A=1,a=b,a(1)=2", "4");
        question("a=b=c", "bad at 3");
        question("a~b", "bad at 1");
        question("a<b", "bad at 1");
        question("a:b", "bad at 1");
        question("a|b", "bad at 1");
    }

    /** "V#T+T, V#T-T, V#T*T (RECKONING; V a VARIABLE)" */
    private static void reckonings() {
        question("A#1+1,A#b-c,Z#B*f(1)", "3");
        question("a#1+1", "bad at 1");
        question("a(1)#1+1", "bad at 4");
        question("1#1+1", "bad at 1");
        question("A#1", "bad at 3");
        question("A#1,a", "bad at 3");
        question("A#1/1", "bad at 3");
        question("A#1,1", "bad at 3");
        question("A#1.1", "bad at 3");
        question("A#1+1+1", "bad at 5");
        question("A#+1", "bad at 2");
    }

    /** "or a CALL, behind it perhaps ^ and a digit 0 .. 3, its LEVEL" */
    private static void levels() {
        question("a^/", "bad at 2");
        for (int level = 0; level <= 3; level++) {
            Net x = new Net().question("a^" + level);
            Net.due("LEVEL " + level, 1, x.net.count(10 + level));
            Net.due("alone", 1, x.net.count(4));
            Net y = Net.of("b|a(1)^" + level).question("b");
            y.net.run(1);
            Net.due("LEVEL " + level + " by a CLAUSE", 1, y.net.count(10 + level));
        }
        question("a^4", "bad at 2");
        question("a^9", "bad at 2");
        question("a^", "bad at 2");
        question("a^00", "bad at 3");
        question("a^10", "bad at 3");
        question("a^A", "bad at 2");
        question("a=b^1", "bad at 3");
        question("A#1+1^1", "bad at 5");
        question("A^1", "bad at 1");
        clause("a^1", "bad at 1");
    }

    /** "The text has at most 48 characters." */
    private static void lengthOfAText() {
        String head = "a(b(1,2,3),c(1,2,3),d(1,2,3))|";
        clause(head + "X#22+33,Y#22+33,c", "1");
        clause(head + "X#22+3,Y#22+3,c(1)", "1");
        clause(head + "X#22+33,Y#22+33,c,", "bad at 48");
        question("a,".repeat(22) + "b=c", "23");
        question("a,".repeat(22) + "B=22", "23");
        question("a,".repeat(24), "bad at 48");
        Net x = new Net().text("a,".repeat(22) + "B=22");
        Net.due("one more", Net.STATE, () -> x.net.type(','));
        Net.due("48 are there", 48, x.net.count(1));
        Net.due("and are read", 23, () -> x.net.ask());
    }

    private static void clause(String text, String due) {
        Net.due("the CLAUSE " + text, due, Net.asClause(text));
    }

    private static void question(String text, String due) {
        Net.due("the QUESTION " + text, due, Net.asQuestion(text));
    }
}
