/** Promise 16: the events that were read are written again. */
public final class AgainTest {
    private static final Class<IllegalStateException> STATE = IllegalStateException.class;
    private static final Class<UnsupportedOperationException> FULL =
            UnsupportedOperationException.class;

    public static void main(String[] args) {
        sameBits();
        shortestBits();
        nothingWasRead();
        tooManyLocals();
        tooManyBits();
        Check.end();
    }

    private static void sameBits() {
        LearnedCodes x = new LearnedCodes();
        x.open(3, 1);
        x.attribute(0, 2, 5);
        x.open(0, 4);
        x.text(5);
        x.close();
        x.close();
        String bits = Code.kept(x);
        x.read();
        x.clear();
        x.open(7, 7);
        Check.due("again", x.again(), bits.length());
        Check.due("written", x.written(), bits.length());
        Check.refused("the document is whole", STATE, () -> x.open(0, 1));
        Check.refused("no element is open", STATE, () -> x.close());
        x.flip(0);
        Check.due("by the events, not by the stream", x.again(), bits.length());
        Check.due("taken stays", x.taken(), bits.length());
        Check.due("again", Code.kept(x), bits);
    }

    private static void shortestBits() {
        // a code, a space, a local part and a value are told anew that came before
        LearnedCodes x = Code.streamOf("0 0000 1001 0000 0001", "01 00 0000 0001 0001 0011 0001",
                "1 01 01 0001 0001 0011 0001", "1 00");
        Check.due("read", x.read(), 4);
        Check.due("again", x.again(), 32);
        Check.due("shortest", Code.kept(x),
                Code.join("1 0001 0001", "01 1 0000 0011 0001", "0 0000", "1 00"));
    }

    private static void nothingWasRead() {
        LearnedCodes x = new LearnedCodes();
        x.open(0, 1);
        Check.refused("nothing was read", STATE, () -> x.again());
        Check.due("what is written stays", x.written(), 9);
        x.close();
        x.keep();
        x.read();
        x.cut(10);
        Check.refused("wrong", IllegalArgumentException.class, () -> x.read());
        Check.refused("what was read last was wrong", STATE, () -> x.again());
        Check.due("what is written stays", x.written(), 11);
    }

    private static void tooManyLocals() {
        StringBuilder bits = new StringBuilder("1 0001 0001");
        for (int local = 2; local <= 10; local++) {
            bits.append(Code.place(local - 2, local - 1)).append("01 1 0001");
            bits.append(Code.number(local)).append("0010");
        }
        LearnedCodes x = Code.streamOf(bits + "1001 01 0 0000 0001 1011 0001 0010", "1010 00");
        Check.due("eleven locals in two tables", x.read(), 12);
        x.open(0, 1);
        Check.refused("they don't go into one", FULL, () -> x.again());
        Check.due("nothing is written", x.written(), 0);
        Check.refused("no element is open", STATE, () -> x.text(1));
        Check.due("the events are still there", Code.event(x, 10), "2 0 11 0");
        x.open(0, 11);
        x.close();
        Check.due("a document may begin", Code.kept(x), Code.join("1 0001 1011 0001 00"));
    }

    private static void tooManyBits() {
        LearnedCodes x = Code.filled(3801);
        x.keep();
        Code.push(x, "01");
        int events = x.read();
        Check.refused("close behind 3800", FULL, () -> x.again());
        Check.due("nothing is written", x.written(), 0);
        Check.due("the events stay", x.event(events - 1, 0), 4);
        Check.due("nothing is kept", x.keep(), 0);
        LearnedCodes y = Code.filled(3800);
        y.close();
        y.keep();
        y.read();
        Check.due("close at 3800", y.again(), 3802);
    }
}
