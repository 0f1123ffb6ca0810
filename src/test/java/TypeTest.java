/** Promise 2: the bytes of a number are added to the text. */
public final class TypeTest {
    public static void main(String[] args) {
        bytes();
        wrongBytes();
        limit();
        Net.end();
    }

    private static void bytes() {
        Net x = new Net();
        Net.due("nothing", 0, () -> x.net.type(0));
        Net.due("one", 1, () -> x.net.type('a'));
        Net.due("zeros left out", 3, () -> x.net.type(0x003D_0000_3700_0000L));
        Net.due("highest first: a=7", 1, () -> x.net.ask());
        Net.due("eight", 8, () -> x.net.type(Net.eight("abcdefgh")));
        Net.due("a byte in the highest place", 9, () -> x.net.type(0x2100_0000_0000_0000L));
        Net.due("the least and the greatest", 11, () -> x.net.type(0x217EL));
        Net.due("count", 11, () -> x.net.count(1));
    }

    private static void wrongBytes() {
        int[] wrong = {1, 9, 32, 127, 128, 161, 254, 255};
        for (int value : wrong) {
            for (int shift = 0; shift < 64; shift += 8) {
                Net x = new Net().text("a");
                long eight = 0x6161_6161_6161_6161L & ~(255L << shift) | (long) value << shift;
                Net.due("byte " + value + " at " + shift, Net.BAD, () -> x.net.type(eight));
                Net.due("none is added", 1, () -> x.net.count(1));
            }
        }
    }

    private static void limit() {
        Net x = new Net().text("a".repeat(41));
        Net.due("49", Net.STATE, () -> x.net.type(Net.eight("bbbbbbbb")));
        Net.due("none is added", 41, () -> x.net.count(1));
        Net.due("48", 48, () -> x.net.type(Net.eight("bbbbbbb")));
        Net.due("one more", Net.STATE, () -> x.net.type('a'));
        Net.due("nothing more", 48, () -> x.net.type(0));
        Net.due("bad comes before too long", Net.BAD, () -> x.net.type(Net.eight("bbbbbbb b")));
        Net.due("still there", 48, () -> x.net.count(1));
    }
}
