/** Promise 7: what a VARIABLE stands for, as a text. */
public final class LetterTest {
    public static void main(String[] args) {
        texts();
        wrong();
        longTexts();
        afterAnEnd();
        Net.end();
    }

    private static void texts() {
        Net x = new Net().question("A=f(1,B,g(b,C)),C=z,D#0-5,E=D,F=07,G=h(99)");
        Net.due("before it ran", "_", x.shows('A'));
        Net.due("ends", "1", x.outcome());
        Net.due("A", "f(1,_,g(b,z))", x.shows('A'));
        Net.due("B", "_", x.shows('B'));
        Net.due("C", "z", x.shows('C'));
        Net.due("D", "-5", x.shows('D'));
        Net.due("E", "-5", x.shows('E'));
        Net.due("F", "7", x.shows('F'));
        Net.due("G", "h(99)", x.shows('G'));
        Net.due("a character", 'f' + 0, () -> x.net.letter(0, 0));
        Net.due("length", 13, () -> x.net.letter(0, -1));
        Net.due("the last character", ')' + 0, () -> x.net.letter(0, 12));
        x.question("Z=a");
        x.outcome();
        Net.due("Z", "a", x.shows('Z'));
    }

    private static void wrong() {
        Net x = new Net();
        Net.due("no QUESTION", Net.NO_SUCH, () -> x.net.letter(0, -1));
        Net.due("bad comes before no QUESTION", Net.BAD, () -> x.net.letter(26, -1));
        x.question("A=12,C=1").outcome();
        Net.due("v below", Net.BAD, () -> x.net.letter(-1, 0));
        Net.due("v above", Net.BAD, () -> x.net.letter(26, 0));
        Net.due("least v", Net.BAD, () -> x.net.letter(Integer.MIN_VALUE, 0));
        Net.due("greatest v", Net.BAD, () -> x.net.letter(Integer.MAX_VALUE, 99));
        Net.due("B isn't in it", Net.NO_SUCH, () -> x.net.letter(1, 0));
        Net.due("B isn't in it", Net.NO_SUCH, () -> x.net.letter(1, -1));
        Net.due("Z isn't in it", Net.NO_SUCH, () -> x.net.letter(25, -1));
        Net.due("the second", '2' + 0, () -> x.net.letter(0, 1));
        Net.due("behind the end", Net.NO_SUCH, () -> x.net.letter(0, 2));
        Net.due("far", Net.NO_SUCH, () -> x.net.letter(0, Integer.MAX_VALUE));
        Net.due("before -1", Net.NO_SUCH, () -> x.net.letter(0, -2));
        Net.due("least", Net.NO_SUCH, () -> x.net.letter(0, Integer.MIN_VALUE));
    }

    private static void longTexts() {
        Net x = new Net().question("A=f(A),B=g(B,B,B),C=g(1,A,C)");
        x.outcome();
        Net.due("A", "f(".repeat(40), x.shows('A'));
        Net.due("B", "g(".repeat(40), x.shows('B'));
        Net.due("C", "g(1," + "f(".repeat(38), x.shows('C'));
        Net.due("the 80th", '(' + 0, () -> x.net.letter(0, 79));
        Net.due("no 81st", Net.NO_SUCH, () -> x.net.letter(0, 80));
        x.question("A=g(B,B,B),B=g(C,C,C),C=g(1,2,3)").outcome();
        String inner = "g(1,2,3)";
        String middle = "g(" + inner + "," + inner + "," + inner + ")";
        Net.due("80 characters whole or not", ("g(" + middle + "," + middle + "," + middle + ")")
                .substring(0, 80), x.shows('A'));
        x.question("A=g(B,B,B),B=h(C,C,C),C=k(1,1),D=g(B,B)").outcome();
        String h = "h(k(1,1),k(1,1),k(1,1))";
        Net.due("a text of 75 characters", "g(" + h + "," + h + "," + h + ")", x.shows('A'));
        Net.due("of 50", "g(" + h + "," + h + ")", x.shows('D'));
        exactly();
    }

    private static void exactly() {
        Net x = Net.of("k(0,L,E)|L=E", "k(N,L,E):0<N|L=c(1,T),M#N-1,k(M,T,E)");
        x.question("k(15,A,B),B=f(9)").outcome();
        String text = "c(1,".repeat(15) + "f(9)" + ")".repeat(15);
        Net.due("79 characters", text, x.shows('A'));
        x.question("k(15,A,B),B=f(10)").outcome();
        Net.due("80 characters", "c(1,".repeat(15) + "f(10)" + ")".repeat(15), x.shows('A'));
        x.question("k(15,A,f(B)),B#99+1").outcome();
        Net.due("81 characters", ("c(1,".repeat(15) + "f(100)" + ")".repeat(15)).substring(0, 80),
                x.shows('A'));
        x.question("k(19,A,f(B)),B#99*99").outcome();
        Net.due("a NUMBER is cut", "c(1,".repeat(19) + "f(98", x.shows('A'));
    }

    private static void afterAnEnd() {
        Net x = new Net().question("A=f(B),1=2");
        x.outcome();
        Net.due("after FAILED", "f(_)", x.shows('A'));
        x.text("?");
        Net.due("bad", Net.BAD, () -> x.net.ask());
        Net.due("after a bad QUESTION", "f(_)", x.shows('A'));
    }
}
