/** Promise 2: type. */
public final class EdgesOfTypeTest {
    public static void main(String[] args) {
        eachByte();
        zeros();
        highestFirst();
        moreThan48();
        everyLength();
        noneIsAdded();
        badFirst();
        Net.end();
    }

    /** "One not 33 .. 126: bad" */
    private static void eachByte() {
        for (int value = 0; value < 256; value++) {
            for (int shift = 0; shift < 64; shift += 8) {
                Net x = new Net();
                long eight = (long) value << shift;
                String due = value == 0 ? "0" : value < 33 || value > 126 ? Net.BAD : "1";
                Net.due("byte " + value + " at " + shift, due, () -> x.net.type(eight));
                Net.due("length", due.equals("1") ? 1 : 0, x.net.count(1));
            }
        }
    }

    /** "those that are 0 left out" */
    private static void zeros() {
        Net x = new Net();
        Net.due("all are 0", 0, () -> x.net.type(0));
        Net.due("all but one", 1, () -> x.net.type(0x6100_0000_0000_0000L));
        Net.due("every second", 5, () -> x.net.type(0x0028_0031_0029_002CL));
        Net.due("none is", 13, () -> x.net.type(Net.eight("b(1,2,3)")));
        Net.due("a(1),b(1,2,3)", 2, () -> x.net.ask());
    }

    /** "the eight bytes of the number, highest first" */
    private static void highestFirst() {
        Net x = new Net();
        x.net.type(Net.eight("A=f(g,1)"));
        x.net.ask();
        x.outcome();
        Net.due("in order", "f(g,1)", x.shows('A'));
    }

    /** "more than 48 in all: IllegalStateException" */
    private static void moreThan48() {
        Net x = new Net().text("a".repeat(47));
        Net.due("47 and two", Net.STATE, () -> x.net.type(Net.eight("bb")));
        Net.due("47 and none", 47, () -> x.net.type(0));
        Net.due("47 and one", 48, () -> x.net.type('b'));
        Net.due("48 and none", 48, () -> x.net.type(0));
        Net.due("48 and one", Net.STATE, () -> x.net.type('b'));
        Net.due("48 and eight", Net.STATE, () -> x.net.type(Net.eight("bbbbbbbb")));
        Net.due("48 are there", 48, x.net.count(1));
    }

    private static void everyLength() {
        for (int before = 38; before <= 48; before++) {
            for (int more = 0; more <= 8; more++) {
                Net x = new Net().text("a".repeat(before));
                long eight = Net.eight("bbbbbbbb".substring(8 - more));
                boolean fits = before + more <= 48;
                Net.due(before + " and " + more, fits ? before + more : Net.STATE,
                        () -> x.net.type(eight));
                Net.due("length", fits ? before + more : before, x.net.count(1));
            }
        }
    }

    /** "then none is added" */
    private static void noneIsAdded() {
        Net x = new Net().text("A=1");
        Net.due("the last byte is bad", Net.BAD, () -> x.net.type(Net.eight("23,b(1) ")));
        Net.due("the first is", Net.BAD, () -> x.net.type(Net.eight(" 23,b(1)")));
        Net.due("the rest goes on behind what was", 4, () -> x.net.type('9'));
        x.net.ask();
        x.outcome();
        Net.due("A=19", "19", x.shows('A'));
        String question = "a,".repeat(20) + "A=12";
        x.text(question);
        Net.due("too many", Net.STATE, () -> x.net.type(Net.eight("3,b,c")));
        Net.due("44 and four", 48, () -> x.net.type(Net.eight(",b,c")));
        Net.due("as if it hadn't been", 23, () -> x.net.ask());
    }

    /** "Bad comes before the others" */
    private static void badFirst() {
        Net x = new Net().text("a".repeat(48));
        Net.due("bad and too many", Net.BAD, () -> x.net.type(0x7F));
        Net.due("too many, and the last is bad", Net.BAD, () -> x.net.type(Net.eight("aaaaaaa ")));
        Net.due("just too many", Net.STATE, () -> x.net.type(Net.eight("aaaaaaa~")));
        Net.due("48 are there", 48, x.net.count(1));
    }
}
