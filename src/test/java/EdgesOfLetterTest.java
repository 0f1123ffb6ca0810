/** Promise 7: letter. */
public final class EdgesOfLetterTest {
    public static void main(String[] args) {
        whichVariable();
        whichCharacter();
        oneCharacter();
        eighty();
        eightyOfEveryKind();
        numbers();
        noQuestion();
        isNotInIt();
        badFirst();
        whenItCannotBeRun();
        Net.end();
    }

    /** A list of 1s with this end: 5 characters for each, and the end. */
    private static Net list(int many, String end) {
        Net x = Net.of("k(0,L,E)|L=E", "k(N,L,E):0<N|L=c(1,T),M#N-1,k(M,T,E)");
        x.question("k(" + many + ",A," + end + ")").outcome();
        return x;
    }

    /** "the VARIABLE v (0 A .. 25 Z)" */
    private static void whichVariable() {
        Net x = new Net().question("A=1,B=2,Y=3,Z=4");
        x.outcome();
        int[] wrong = {-1, -2, 26, 27, 'A', 'Z', Integer.MIN_VALUE, Integer.MAX_VALUE};
        for (int v : wrong) {
            Net.due("letter(" + v + ", 0)", Net.BAD, () -> x.net.letter(v, 0));
            Net.due("letter(" + v + ", -1)", Net.BAD, () -> x.net.letter(v, -1));
        }
        Net.due("A", (int) '1', () -> x.net.letter(0, 0));
        Net.due("B", (int) '2', () -> x.net.letter(1, 0));
        Net.due("Y", (int) '3', () -> x.net.letter(24, 0));
        Net.due("Z", (int) '4', () -> x.net.letter(25, 0));
    }

    /** "its character i, or its length (i = -1)"; "no such character: NoSuchElementException" */
    private static void whichCharacter() {
        Net x = new Net().question("A=f(1)");
        x.outcome();
        Net.due("the length", 4, () -> x.net.letter(0, -1));
        String text = "f(1)";
        for (int i = 0; i < 4; i++) {
            int at = i;
            Net.due("character " + i, (int) text.charAt(i), () -> x.net.letter(0, at));
        }
        for (int i : new int[] {-2, -3, 4, 5, 79, 80, Integer.MIN_VALUE, Integer.MAX_VALUE}) {
            Net.due("character " + i, Net.NO_SUCH, () -> x.net.letter(0, i));
        }
    }

    private static void oneCharacter() {
        Net x = new Net().question("A=B,C=a,D=7");
        x.outcome();
        for (int v = 0; v < 4; v++) {
            int variable = v;
            Net.due("the length", 1, () -> x.net.letter(variable, -1));
            Net.due("the first", (int) "__a7".charAt(v), () -> x.net.letter(variable, 0));
            Net.due("no second", Net.NO_SUCH, () -> x.net.letter(variable, 1));
        }
    }

    /** "a text ends at 80 characters" */
    private static void eighty() {
        String[] ends = {"f", "f(9)", "f(10)", "f(a,b)", "f(a,10)", "f(a,b,c)"};
        for (String end : ends) {
            String whole = "c(1,".repeat(15) + end + ")".repeat(15);
            int size = Math.min(whole.length(), 80);
            Net x = list(15, end);
            Net.due(whole.length() + " characters", whole.substring(0, size), x.shows('A'));
            Net.due("the length", size, () -> x.net.letter(0, -1));
            Net.due("the last", (int) whole.charAt(size - 1), () -> x.net.letter(0, size - 1));
            Net.due("none behind", Net.NO_SUCH, () -> x.net.letter(0, size));
            Net.due("no 81st", Net.NO_SUCH, () -> x.net.letter(0, 80));
        }
    }

    /** Whatever would be the 81st character and those behind it. */
    private static void eightyOfEveryKind() {
        for (int many = 14; many <= 22; many++) {
            for (String end : new String[] {"n", "B", "f(g)", "f(1,B,3)", "f(g(h,12,i))"}) {
                String whole = "c(1,".repeat(many) + end.replace('B', '_') + ")".repeat(many);
                Net.due(many + " and " + end, whole.substring(0, Math.min(whole.length(), 80)),
                        list(many, end).shows('A'));
            }
        }
        Net x = new Net().question("A=f(A),B=g(1,B),C=h(C,1),D=i(D,D,D)");
        x.outcome();
        Net.due("no end", "f(".repeat(40), x.shows('A'));
        Net.due("no end", "g(1,".repeat(20), x.shows('B'));
        Net.due("no end", "h(".repeat(40), x.shows('C'));
        Net.due("no end", "i(".repeat(40), x.shows('D'));
    }

    /** "NUMBERS in decimal" */
    private static void numbers() {
        Net x = new Net().question("A#64*64,B#A*A,C#B*64,D#C-1,E#D+C,F#E+1,G=0");
        x.outcome();
        Net.due("the greatest", "2147483647", x.shows('E'));
        Net.due("the least", "-2147483648", x.shows('F'));
        Net.due("0", "0", x.shows('G'));
        Net.due("its length", 11, () -> x.net.letter(5, -1));
        Net.due("its last", (int) '8', () -> x.net.letter(5, 10));
        Net.due("none behind", Net.NO_SUCH, () -> x.net.letter(5, 11));
        x.question("A=f(B),B=g(C),C=h(D),D=99,E#0-D,F=i(E)").outcome();
        Net.due("within", "f(g(h(99))) i(-99)", x.shows('A') + " " + x.shows('F'));
        Net y = Net.of("k(0,L,E)|L=E", "k(N,L,E):0<N|L=c(1,T),M#N-1,k(M,T,E)");
        y.question("k(18,C,E),A=d(22,a,C),E#0-1").outcome();
        Net.due("- is the 80th", "d(22,a," + "c(1,".repeat(18) + "-", y.shows('A'));
    }

    /** "No QUESTION .. : NoSuchElementException." */
    private static void noQuestion() {
        Net x = Net.of("a");
        Net.due("none", Net.NO_SUCH, () -> x.net.letter(0, -1));
        Net.due("none", Net.NO_SUCH, () -> x.net.letter(25, 0));
        x.text("A");
        Net.due("bad", Net.BAD, () -> x.net.ask());
        Net.due("still none", Net.NO_SUCH, () -> x.net.letter(0, -1));
        x.question("A=1");
        Net.due("there is one", 1, () -> x.net.letter(0, -1));
    }

    /** "it isn't in it .. : NoSuchElementException." */
    private static void isNotInIt() {
        Net x = Net.of("p(X)|X=Y").question("p(B)");
        x.outcome();
        Net.due("A", Net.NO_SUCH, () -> x.net.letter(0, -1));
        Net.due("B", "_", x.shows('B'));
        Net.due("C", Net.NO_SUCH, () -> x.net.letter(2, 0));
        Net.due("a CLAUSE's", Net.NO_SUCH, () -> x.net.letter('X' - 'A', -1));
        x.question("p(1)");
        Net.due("of the QUESTION before", Net.NO_SUCH, () -> x.net.letter(1, -1));
    }

    /** "Bad comes before the others" */
    private static void badFirst() {
        Net x = new Net();
        Net.due("no QUESTION", Net.BAD, () -> x.net.letter(26, 0));
        Net.due("no QUESTION", Net.BAD, () -> x.net.letter(-1, 0));
        x.question("A=1");
        Net.due("no such character", Net.BAD, () -> x.net.letter(26, 80));
        Net.due("no such character", Net.BAD, () -> x.net.letter(-1, -2));
    }

    private static void whenItCannotBeRun() {
        Net x = Net.of("q|q,q,q").question("A=f(B),1=2");
        Net.due("FAILED", Net.FAILED, x.outcome());
        Net.due("A", "f(_)", x.shows('A'));
        x.question("A=g(B),q");
        Net.due("TOO MUCH", Net.STATE, x.outcome());
        Net.due("A", "g(_)", x.shows('A'));
    }
}
