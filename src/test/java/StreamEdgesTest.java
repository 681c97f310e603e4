/** The edges of promises 8 to 12: the stream and its bits. */
public final class StreamEdgesTest {
    private static final int ZZZZZ = 14348906;

    public static void main(String[] args) {
        Check.sentence("Promise 8",
                "The stream is what is written, from now on: how many bits it has.",
                StreamEdgesTest::keeps);
        Check.sentence("Promise 9", "One more bit in the stream: how many it has.",
                StreamEdgesTest::pushes);
        Check.sentence("Promise 9", "IllegalStateException: it has 4000.", StreamEdgesTest::full);
        Check.sentence("Promise 10", "Bit i of the stream, 0 or 1.", StreamEdgesTest::bits);
        Check.sentence("Promise 10", "IndexOutOfBoundsException: it has none.",
                StreamEdgesTest::noBit);
        Check.sentence("Promise 11", "Bit i of the stream becomes the other one.",
                StreamEdgesTest::flips);
        Check.sentence("Promise 11", "IndexOutOfBoundsException: it has none.",
                StreamEdgesTest::noFlip);
        Check.sentence("Promise 12", "The stream has its first n bits alone.",
                StreamEdgesTest::cuts);
        Check.sentence("Promise 12", "IllegalArgumentException: n is below 0",
                StreamEdgesTest::cutBelowZero);
        Check.sentence("Promise 12", "or more than it has.", StreamEdgesTest::cutTooMany);
        Check.end();
    }

    private static void keeps() {
        LearnedCodes x = Code.streamOf("1111 1111 1111");
        Check.due("nothing", x.keep(), 0);
        Check.refused("nothing", Refused.INDEX, () -> x.bit(0));
        Code.push(x, "1111 1111 1111");
        x.open(0, 1);
        Check.due("fewer than before", x.keep(), 9);
        Check.due("its bits", Code.stream(x, 9), "100010001");
        Check.refused("the tenth", Refused.INDEX, () -> x.bit(9));
        x.close();
        Check.refused("what comes later", Refused.INDEX, () -> x.bit(9));
        x.flip(0);
        x.push(true);
        Check.due("what is written stays", Code.kept(x), "10001000100");
        x.clear();
        Check.due("clear leaves the stream", Code.stream(x, 11), "10001000100");
        Check.due("nothing any more", x.keep(), 0);
        LearnedCodes most = Code.filled(3788);
        most.open(0, 2);
        most.attribute(ZZZZZ, ZZZZZ, ZZZZZ);
        Check.due("as many as can be written", most.keep(), 3935);
        Check.due("the last one is that of z", most.bit(3934), 1);
        Check.refused("and no more", Refused.INDEX, () -> most.bit(3935));
    }

    private static void pushes() {
        LearnedCodes x = new LearnedCodes();
        Check.due("the first", x.push(false), 1);
        Check.due("the second", x.push(true), 2);
        Check.due("both", Code.stream(x, 2), "01");
        x.cut(1);
        Check.due("behind cut", x.push(false), 2);
        Check.due("both", Code.stream(x, 2), "00");
        x.open(0, 1);
        x.keep();
        Check.due("behind keep", x.push(true), 10);
        Check.due("all", Code.stream(x, 10), "1000100011");
    }

    /** So many bits, the last of them pushed: 1, 0, 1, 0 .. */
    private static LearnedCodes stream(int bits) {
        LearnedCodes x = Code.filled(3788);
        x.open(0, 2);
        x.attribute(ZZZZZ, ZZZZZ, ZZZZZ);
        for (int size = x.keep(); size < bits; size++) {
            x.push(size % 2 == 0);
        }
        return x;
    }

    private static void full() {
        LearnedCodes x = stream(3999);
        Check.due("the 4000th", x.push(true), 4000);
        Check.refused("the 4001st", Refused.STATE, () -> x.push(false));
        Check.refused("the 4001st", Refused.STATE, () -> x.push(true));
        Check.due("the 4000th stays", x.bit(3999), 1);
        Check.due("the 3999th stays", x.bit(3998), 1);
        Check.due("the 3998th stays", x.bit(3997), 0);
        Check.refused("there is no other", Refused.INDEX, () -> x.bit(4000));
        Check.refused("there is no other", Refused.ARGUMENT, () -> x.cut(4001));
        x.cut(4000);
        Check.refused("still full", Refused.STATE, () -> x.push(true));
        x.cut(3999);
        Check.due("one more", x.push(false), 4000);
        Check.due("its bit", x.bit(3999), 0);
        Refused.leavesAll("the 4001st", Refused.STATE, () -> stream(4000), y -> y.push(true));
        x.keep();
        Check.due("keep gives room", x.push(true), 3936);
    }

    private static void bits() {
        LearnedCodes x = Code.streamOf("10");
        Check.due("the first", x.bit(0), 1);
        Check.due("the last", x.bit(1), 0);
        LearnedCodes y = stream(4000);
        Check.due("the first of 4000", y.bit(0), 1);
        Check.due("the 3999th", y.bit(3998), 1);
        Check.due("the 4000th", y.bit(3999), 0);
    }

    private static void noBit() {
        for (int i : new int[] {-1, 2, 3, 3999, 4000, Integer.MAX_VALUE, Integer.MIN_VALUE}) {
            Refused.leavesAll("bit " + i, Refused.INDEX, () -> Code.streamOf("10"),
                    x -> x.bit(i));
        }
        for (int i : new int[] {-1, 0, 1}) {
            Refused.leavesAll("bit " + i + " of none", Refused.INDEX, LearnedCodes::new,
                    x -> x.bit(i));
        }
        LearnedCodes y = stream(4000);
        Check.refused("behind the 4000th", Refused.INDEX, () -> y.bit(4000));
        y.cut(1);
        Check.due("the last one", y.bit(0), 1);
        Check.refused("one that was cut", Refused.INDEX, () -> y.bit(1));
    }

    private static void flips() {
        LearnedCodes x = Code.streamOf("100");
        x.flip(0);
        x.flip(2);
        Check.due("the first and the last", Code.stream(x, 3), "001");
        x.flip(0);
        x.flip(1);
        x.flip(1);
        Check.due("back", Code.stream(x, 3), "101");
        LearnedCodes y = stream(4000);
        y.flip(3999);
        Check.due("the 4000th", y.bit(3999), 1);
        Check.due("not the one before", y.bit(3998), 1);
        y.flip(3999);
        Check.due("back", y.bit(3999), 0);
    }

    private static void noFlip() {
        for (int i : new int[] {-1, 2, 3, 3999, 4000, Integer.MAX_VALUE, Integer.MIN_VALUE}) {
            Refused.leavesAll("flip " + i, Refused.INDEX, () -> Code.streamOf("10"),
                    x -> x.flip(i));
        }
        Refused.leavesAll("flip of none", Refused.INDEX, LearnedCodes::new, x -> x.flip(0));
        LearnedCodes y = stream(4000);
        Check.refused("behind the 4000th", Refused.INDEX, () -> y.flip(4000));
        LearnedCodes z = Code.streamOf("10");
        z.cut(1);
        Check.refused("one that was cut", Refused.INDEX, () -> z.flip(1));
        z.push(true);
        Check.due("it was not flipped", Code.stream(z, 2), "11");
    }

    private static void cuts() {
        LearnedCodes x = Code.streamOf("10011");
        x.cut(5);
        Check.due("all", Code.stream(x, 5), "10011");
        x.cut(4);
        Check.due("all but one", Code.stream(x, 4), "1001");
        Check.refused("that one", Refused.INDEX, () -> x.bit(4));
        x.cut(0);
        Check.refused("none", Refused.INDEX, () -> x.bit(0));
        x.cut(0);
        Check.due("a first one", x.push(true), 1);
        LearnedCodes y = stream(4000);
        y.cut(4000);
        Check.due("all 4000", y.bit(3999), 0);
    }

    private static void cutBelowZero() {
        for (int n : new int[] {-1, -2, -5, Integer.MIN_VALUE}) {
            Refused.leavesAll("cut " + n, Refused.ARGUMENT, () -> Code.streamOf("10011"),
                    x -> x.cut(n));
            Refused.leavesAll("cut " + n + " of none", Refused.ARGUMENT, LearnedCodes::new,
                    x -> x.cut(n));
        }
        LearnedCodes x = Code.streamOf("1");
        x.cut(0);
        Check.due("0 is not", x.push(true), 1);
    }

    private static void cutTooMany() {
        for (int n : new int[] {6, 7, 4000, 4001, Integer.MAX_VALUE}) {
            Refused.leavesAll("cut " + n, Refused.ARGUMENT, () -> Code.streamOf("10011"),
                    x -> x.cut(n));
        }
        Refused.leavesAll("cut 1 of none", Refused.ARGUMENT, LearnedCodes::new, x -> x.cut(1));
        LearnedCodes x = Code.streamOf("10011");
        x.cut(3);
        Check.refused("what was cut does not come back", Refused.ARGUMENT, () -> x.cut(4));
        x.cut(3);
        Check.due("as many as it has", x.push(true), 4);
    }
}
