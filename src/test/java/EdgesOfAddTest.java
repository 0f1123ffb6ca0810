/** Promise 3: add. */
public final class EdgesOfAddTest {
    public static void main(String[] args) {
        emptyThen();
        emptyIfBad();
        noText();
        twelve();
        isNotRead();
        twelveFirst();
        comesLast();
        theLastOfTwelve();
        Net.end();
    }

    private static Net with(int clauses) {
        Net x = new Net();
        for (int k = 0; k < clauses; k++) {
            x.text("c(" + k + ")").net.add();
        }
        return x;
    }

    /** "The text, empty then" */
    private static void emptyThen() {
        Net x = new Net().text("c");
        Net.due("a text", 1, x.net.count(1));
        Net.due("right", 1, () -> x.net.add());
        Net.due("empty", 0, x.net.count(1));
        Net.due("a new text begins", 1, () -> x.net.type('d'));
    }

    /** "empty then also if it's bad" */
    private static void emptyIfBad() {
        Net x = new Net().text("c(");
        Net.due("bad", Net.BAD, () -> x.net.add());
        Net.due("empty", 0, x.net.count(1));
        Net.due("no CLAUSE", 0, x.net.count(2));
        Net.due("a new text begins", 1, () -> x.net.type('d'));
        Net.due("and is right", 1, () -> x.net.add());
        Net y = new Net().text("c".repeat(48));
        Net.due("48 that are bad", Net.BAD, () -> y.net.add());
        Net.due("all go", 0, y.net.count(1));
    }

    private static void noText() {
        Net x = new Net();
        Net.due("no text", Net.BAD, () -> x.net.add());
        Net.due("THE PLACE", 0, x.net.count(0));
        x.text("c").net.add();
        Net.due("no text any more", Net.BAD, () -> x.net.add());
        Net.due("one CLAUSE", 1, x.net.count(2));
    }

    /** "12 are there: IllegalStateException"; "Answers how many there are." */
    private static void twelve() {
        for (int there = 0; there <= 13; there++) {
            Net x = with(Math.min(there, 12)).text("d");
            Net.due(there + " and one", there < 12 ? there + 1 : Net.STATE, () -> x.net.add());
            Net.due("there are", Math.min(there + 1, 12), x.net.count(2));
            Net.due("the text", 0, x.net.count(1));
        }
        Net x = with(12).text("d");
        Net.due("twelve", Net.STATE, () -> x.net.add());
        x.drop(11);
        Net.due("the text went", Net.BAD, () -> x.net.add());
        x.text("d");
        Net.due("eleven and one", 12, () -> x.net.add());
        x.text("d");
        Net.due("twelve again", Net.STATE, () -> x.net.add());
    }

    /** "the text is empty then, too, but isn't read" */
    private static void isNotRead() {
        Net x = with(12);
        Net.due("no text at all", Net.STATE, () -> x.net.add());
        for (String text : new String[] {"d(", "D", "d(1", "d:1>2", "d".repeat(48), "d"}) {
            x.text(text);
            Net.due("with " + text, Net.STATE, () -> x.net.add());
            Net.due("empty", 0, x.net.count(1));
            Net.due("no PLACE", -1, x.net.count(0));
            Net.due("twelve", 12, x.net.count(2));
        }
        Net y = with(11).text("d(");
        Net.due("eleven: bad", Net.BAD, () -> y.net.add());
        y.text("d").net.add();
        y.text("d(1,2,3,4)");
        Net.due("twelve", Net.STATE, () -> y.net.add());
        Net.due("THE PLACE of the one before", 2, y.net.count(0));
    }

    /** "Bad comes before the others (but in add(), where 12 CLAUSES are looked at first)" */
    private static void twelveFirst() {
        Net x = with(11).text("d(1;");
        Net.due("eleven: bad", Net.BAD, () -> x.net.add());
        Net.due("THE PLACE", 3, x.net.count(0));
        x.text("d").net.add();
        x.text("d(1;");
        Net.due("twelve: not bad", Net.STATE, () -> x.net.add());
    }

    /** "which comes last" */
    private static void comesLast() {
        Net x = Net.of("p(1,R)|R=1", "p(X,R)|R=2");
        x.question("p(1,A),p(2,B)").outcome();
        Net.due("the first first", "1 2", x.shows('A') + " " + x.shows('B'));
        x.drop(0);
        x.text("p(1,R)|R=1").net.add();
        x.question("p(1,A),p(2,B)").outcome();
        Net.due("now it comes last", "2 2", x.shows('A') + " " + x.shows('B'));
    }

    private static void theLastOfTwelve() {
        Net x = with(12);
        Net.due("the twelfth is tried", "1", x.question("c(11)").outcome());
        x.text("c(12)");
        Net.due("a thirteenth", Net.STATE, () -> x.net.add());
        Net.due("isn't there", Net.FAILED, x.question("c(12)").outcome());
        Net.due("all twelve must WAIT", "2", x.question("c(A)").outcome());
    }
}
