/** Promise 5: a text is read as a QUESTION. */
public final class AskTest {
    public static void main(String[] args) {
        right();
        places();
        levels();
        replaces();
        badStays();
        Net.end();
    }

    private static void right() {
        asked("a", 1);
        asked("a^0", 1);
        asked("a=b", 1);
        asked("1=2", 1);
        asked("01=2", 1);
        asked("A=A", 1);
        asked("A#1+2", 1);
        asked("A#B-f(C)", 1);
        asked("a(b(c(d(e)))),f(A,1,g)^3,A=1,B#A*A", 4);
        asked("a,".repeat(23) + "a", 24);
    }

    private static void asked(String text, int goals) {
        Net x = new Net().text(text);
        Net.due("ask " + text, goals, () -> x.net.ask());
        Net.due("the text is empty", 0, () -> x.net.count(1));
        Net.due("its GOALS stand in the ROWS", goals, () -> x.net.count(4));
        Net.due("it can be run", 1, () -> x.net.count(8));
    }

    private static void places() {
        wrong("", 0);
        wrong("#", 0);
        wrong("A", 1);
        wrong("A,b", 1);
        wrong("A(1)=2", 1);
        wrong("A^1", 1);
        wrong("1", 1);
        wrong("12", 2);
        wrong("123", 2);
        wrong("1,a", 1);
        wrong("1#2+3", 1);
        wrong("a#1+2", 1);
        wrong("a(1)#", 4);
        wrong("a<b", 1);
        wrong("a~b", 1);
        wrong("a:1<2", 1);
        wrong("a|b", 1);
        wrong("a=", 2);
        wrong("a=b^1", 3);
        wrong("a=b=c", 3);
        wrong("A#", 2);
        wrong("A#1", 3);
        wrong("A#12", 4);
        wrong("A#1/2", 3);
        wrong("A#1=2", 3);
        wrong("A#1+", 4);
        wrong("A#1+2+3", 5);
        wrong("A#1+2^1", 5);
        wrong("a^", 2);
        wrong("a^4", 2);
        wrong("a^b", 2);
        wrong("a^12", 3);
        wrong("a^1=b", 3);
        wrong("a^1^1", 3);
        wrong("a,", 2);
        wrong("a,,b", 2);
        wrong("a(b(c(d(e(", 9);
        wrong("A=a(b(c(d(e(", 11);
        wrong("a".repeat(48), 1);
        wrong("a,".repeat(24), 48);
    }

    private static void wrong(String text, int place) {
        Net x = new Net().text(text);
        Net.due("ask " + text, Net.BAD, () -> x.net.ask());
        Net.due("the place in " + text, place, () -> x.net.count(0));
        Net.due("the text is empty", 0, () -> x.net.count(1));
        Net.due("no QUESTION", 0, () -> x.net.count(8));
    }

    private static void levels() {
        Net x = new Net().question("a^0,b,c^2,d^3,A=1,B#1+2,e^1,f^0");
        Net.due("1 but for ^", "2 4 1 1", x.rows());
        Net.due("two VARIABLES", "0 8 0 2 0 1", x.counts());
    }

    private static void replaces() {
        Net x = Net.of("w(1)", "l|l").question("w(A),w(B),l,C=2,D=1,D=2");
        Net.due("fails", Net.FAILED, x.outcome());
        x.question("l^2,B=A");
        Net.due("all is new", "0 2 0 2 0 1", x.counts());
        Net.due("rows are new", "0 1 1 0", x.rows());
        Net.due("A is new", "_", x.shows('A'));
        Net.due("D isn't in it", -1, () -> x.sleepers('D'));
    }

    private static void badStays() {
        Net x = Net.of("w(1)").question("w(A),w(B)");
        x.net.run(1);
        x.text("w(A),,");
        Net.due("bad", Net.BAD, () -> x.net.ask());
        Net.due("the QUESTION stays", "1 1 1 2 1 1", x.counts());
        Net.due("the place", 5, () -> x.net.count(0));
        Net.due("it goes on", "2", x.outcome());
        x.question("w(1)");
        Net.due("the place stays", 5, () -> x.net.count(0));
    }
}
