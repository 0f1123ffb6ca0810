/** Promise 3: a text is read as a CLAUSE. */
public final class AddTest {
    public static void main(String[] args) {
        right();
        places();
        full();
        lastComesLast();
        Net.end();
    }

    private static void right() {
        String[] texts = {
            "a", "z(A)", "a(1)", "a(00)", "a(99)", "a(b,C,3)", "a(b(c(d(e))))", "a(b(c(d(9))))",
            "a:1<2", "a:X=Y", "a:X~f(Y)", "a:1<2,2=2,a~b", "a|b", "a|b,c", "a:1<2|b", "a|b^0,c^3",
            "a|X=1", "a|1=1", "a|f(X)=g", "a|X#1+2", "a|X#Y-Z", "a|X#f(1)*b", "a|b=c,X#1+2,d(1)^2",
            "a:b(c(d(e(f))))<b(c(d(e(f))))", "a|b(c(d(e(f))))",
            "a(1,2,3):1<2,1<2,1<2,1<2|X=1,X=1,X=1,X=1,X=1,X=2"
        };
        for (String text : texts) {
            Net x = new Net().text(text);
            Net.due("add " + text, 1, () -> x.net.add());
            Net.due("the text is empty", 0, () -> x.net.count(1));
            Net.due("no place", -1, () -> x.net.count(0));
        }
    }

    private static void places() {
        wrong("", 0);
        wrong("A", 0);
        wrong("1", 0);
        wrong("(", 0);
        wrong("a=1", 1);
        wrong("a^1", 1);
        wrong("a,b", 1);
        wrong("aa", 1);
        wrong("a1", 1);
        wrong("a()", 2);
        wrong("a(", 2);
        wrong("a(1", 3);
        wrong("a(1,", 4);
        wrong("a(1,)", 4);
        wrong("a(1,2,3,4)", 7);
        wrong("a(123)", 4);
        wrong("a(1)(", 4);
        wrong("a(b(c(d(e(f)))))", 9);
        wrong("a(B(1))", 3);
        wrong("a:", 2);
        wrong("a:|b", 2);
        wrong("a:b", 3);
        wrong("a:b|c", 3);
        wrong("a:1", 3);
        wrong("a:1>2", 3);
        wrong("a:12", 4);
        wrong("a:123", 4);
        wrong("a:1<", 4);
        wrong("a:1<2,", 6);
        wrong("a:1<2:", 5);
        wrong("a:1<2|", 6);
        wrong("a:X#1+2", 3);
        wrong("a|", 2);
        wrong("a|b|c", 3);
        wrong("a|b:1<2", 3);
        wrong("a|b<c", 3);
        wrong("a|X", 3);
        wrong("a|b,", 4);
        wrong("a!", 1);
    }

    private static void wrong(String text, int place) {
        Net x = Net.of("a").text(text);
        Net.due("add " + text, Net.BAD, () -> x.net.add());
        Net.due("the place in " + text, place, () -> x.net.count(0));
        Net.due("the text is empty", 0, () -> x.net.count(1));
        Net.due("no CLAUSE more", 1, () -> x.net.count(2));
    }

    private static void full() {
        Net x = new Net();
        for (int k = 1; k <= 12; k++) {
            int many = k;
            x.text("a");
            Net.due("CLAUSE " + k, many, () -> x.net.add());
        }
        x.text("b");
        Net.due("a thirteenth", Net.STATE, () -> x.net.add());
        Net.due("the text is empty", 0, () -> x.net.count(1));
        x.text("B");
        Net.due("twelve are looked at before bad", Net.STATE, () -> x.net.add());
        Net.due("the text wasn't read", -1, () -> x.net.count(0));
        x.net.drop(5);
        x.text("b");
        Net.due("there is room again", 12, () -> x.net.add());
    }

    private static void lastComesLast() {
        Net x = Net.of("a(X)|X=1", "a(X)|X=2").question("a(Q)");
        Net.due("runs", "1", x.outcome());
        Net.due("the first is taken", "1", x.shows('Q'));
    }
}
