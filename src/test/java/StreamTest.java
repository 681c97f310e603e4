/** Promises 8 to 12: the stream and its bits. */
public final class StreamTest {
    private static final Class<IndexOutOfBoundsException> INDEX = IndexOutOfBoundsException.class;
    private static final Class<IllegalArgumentException> ARGUMENT = IllegalArgumentException.class;

    public static void main(String[] args) {
        keeping();
        pushing();
        fullStream();
        bitsThatAreNone();
        flipping();
        cutting();
        Check.end();
    }

    private static void keeping() {
        LearnedCodes x = new LearnedCodes();
        Code.push(x, "1111 1111 1111");
        x.open(0, 1);
        Check.due("writing leaves the stream", Code.stream(x, 12), "111111111111");
        Check.due("keep", x.keep(), 9);
        Check.due("kept", Code.stream(x, 9), "100010001");
        Check.refused("the old stream is gone", INDEX, () -> x.bit(9));
        x.text(0);
        Check.refused("what is written later is not in it", INDEX, () -> x.bit(9));
        x.flip(0);
        x.cut(3);
        Check.due("the stream is no part of what is written", x.written(), 15);
        Check.due("keep again", Code.kept(x), "100010001110010");
        x.clear();
        Check.due("clear leaves the stream", Code.stream(x, 15), "100010001110010");
        Check.due("keep nothing", x.keep(), 0);
        Check.refused("nothing", INDEX, () -> x.bit(0));
    }

    private static void pushing() {
        LearnedCodes x = new LearnedCodes();
        Check.due("push", x.push(true), 1);
        Check.due("push", x.push(false), 2);
        Check.due("push", x.push(true), 3);
        Check.due("pushed", Code.stream(x, 3), "101");
        Check.due("nothing is written", x.written(), 0);
        x.open(0, 1);
        x.keep();
        Check.due("push behind what is kept", x.push(true), 10);
        Check.due("pushed", Code.stream(x, 10), "1000100011");
        Check.due("written", x.written(), 9);
    }

    private static void fullStream() {
        LearnedCodes x = Code.filled(3800);
        x.open(14348906, 14348906);
        int size = x.keep();
        while (size < 4000) {
            Check.due("push", x.push(size % 3 == 0), size + 1);
            size++;
        }
        Check.refused("push the 4001st", IllegalStateException.class, () -> x.push(true));
        Check.refused("bit 4000", INDEX, () -> x.bit(4000));
        Check.due("bit 3999", x.bit(3999), 1);
        Check.due("bit 3998", x.bit(3998), 0);
        x.flip(3999);
        Check.due("bit 3999 flipped", x.bit(3999), 0);
        x.cut(4000);
        Check.refused("push after cut(4000)", IllegalStateException.class, () -> x.push(true));
        x.cut(3999);
        Check.due("push after cut(3999)", x.push(true), 4000);
    }

    private static void bitsThatAreNone() {
        LearnedCodes x = Code.streamOf("10");
        for (int none : new int[] {-1, 2, 3, 4000, Integer.MAX_VALUE, Integer.MIN_VALUE}) {
            Check.refused("bit " + none, INDEX, () -> x.bit(none));
            Check.refused("flip " + none, INDEX, () -> x.flip(none));
        }
        Check.due("bits", Code.stream(x, 2), "10");
    }

    private static void flipping() {
        LearnedCodes x = Code.streamOf("1001");
        x.flip(0);
        x.flip(1);
        Check.due("flip", Code.stream(x, 4), "0101");
        x.flip(0);
        x.flip(3);
        Check.due("flip", Code.stream(x, 4), "1100");
    }

    private static void cutting() {
        LearnedCodes x = Code.streamOf("10011");
        for (int none : new int[] {-1, 6, 4000, Integer.MAX_VALUE, Integer.MIN_VALUE}) {
            Check.refused("cut " + none, ARGUMENT, () -> x.cut(none));
        }
        x.cut(5);
        Check.due("cut 5", Code.stream(x, 5), "10011");
        x.cut(3);
        Check.due("cut 3", Code.stream(x, 3), "100");
        Check.refused("bit 3", INDEX, () -> x.bit(3));
        Check.refused("cut 4", ARGUMENT, () -> x.cut(4));
        Check.due("push", x.push(false), 4);
        Check.due("what was cut is gone", Code.stream(x, 4), "1000");
        x.cut(0);
        Check.refused("bit 0", INDEX, () -> x.bit(0));
        Check.due("push", x.push(true), 1);
    }
}
