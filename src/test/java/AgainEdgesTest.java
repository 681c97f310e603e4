/** The edges of promise 16: the events that were read are written again. */
public final class AgainEdgesTest {
    public static void main(String[] args) {
        Check.sentence("Promise 16",
                "The events that were read last are written, from the first one on,",
                AgainEdgesTest::fromTheFirst);
        Check.sentence("Promise 16", "instead of what is written: how many bits.",
                AgainEdgesTest::instead);
        Check.sentence("Promise 16", "IllegalStateException: none were read",
                AgainEdgesTest::noneWereRead);
        Check.sentence("Promise 16, attribute",
                "UnsupportedOperationException: some event could not be written",
                AgainEdgesTest::attributeOfEleventhLocal);
        Check.sentence("Promise 16, open",
                "UnsupportedOperationException: some event could not be written",
                AgainEdgesTest::openOfEleventhLocal);
        Check.sentence("Promise 16, more than 3800 bits",
                "UnsupportedOperationException: some event could not be written",
                AgainEdgesTest::tooManyBits);
        Check.sentence("Promise 16", "(then nothing is written).",
                AgainEdgesTest::nothingIsWritten);
        Check.end();
    }

    private static LearnedCodes read(LearnedCodes x, int events) {
        x.keep();
        Check.due("read", Check.outcome(() -> x.read()), events);
        return x;
    }

    private static LearnedCodes texts(int count) {
        LearnedCodes x = new LearnedCodes();
        x.open(0, 1);
        for (int i = 0; i < count; i++) {
            x.text(0);
        }
        x.close();
        return x;
    }

    private static void fromTheFirst() {
        LearnedCodes least = read(texts(0), 2);
        least.clear();
        Check.due("the least document", least.again(), 11);
        Check.due("its bits", Code.kept(least), Code.join("1 0001 0001 00"));
        LearnedCodes most = read(texts(198), 200);
        int bits = most.written();
        most.clear();
        Check.due("200 events", most.again(), bits);
        Check.due("the last bits", Code.keptFrom(most, bits - 8), Code.join("00 0010", "01"));
        LearnedCodes last = read(texts(1), 3);
        last.clear();
        last.open(2, 2);
        last.close();
        read(last, 2);
        last.clear();
        Check.due("those that were read last", last.again(), 19);
        last.cut(0);
        Check.due("whatever the stream is", last.again(), 19);
    }

    private static void instead() {
        LearnedCodes x = read(texts(0), 2);
        Check.due("of a whole document", x.again(), 11);
        Check.due("written", x.written(), 11);
        x.clear();
        Check.due("of nothing", x.again(), 11);
        x.clear();
        x.open(3, 3);
        x.attribute(1, 1, 1);
        Check.due("of a document that is not whole", x.again(), 11);
        Check.due("written", x.written(), 11);
        Check.refused("the document is whole", Refused.STATE, () -> x.open(0, 1));
        Check.refused("no element is open", Refused.STATE, () -> x.close());
        Check.due("its bits", Code.kept(x), Code.join("1 0001 0001 00"));
        LearnedCodes full = Code.filled(3801);
        Code.push(full, "1 0001 0001 00");
        full.read();
        Check.due("of more than 3800 bits", full.again(), 11);
    }

    private static LearnedCodes open() {
        LearnedCodes x = new LearnedCodes();
        x.open(0, 1);
        x.attribute(1, 1, 1);
        return x;
    }

    private static LearnedCodes readWrong() {
        LearnedCodes x = read(texts(0), 2);
        x.cut(10);
        Check.refused("read", Refused.ARGUMENT, () -> x.read());
        return x;
    }

    private static LearnedCodes readTooMany() {
        LearnedCodes x = texts(199);
        x.keep();
        Check.refused("read", Refused.FULL, () -> x.read());
        return x;
    }

    private static void noneWereRead() {
        Refused.leavesAll("a new object", Refused.STATE, LearnedCodes::new, x -> x.again());
        Refused.leavesAll("written, not read", Refused.STATE, AgainEdgesTest::open,
                x -> x.again());
        Refused.leavesAll("what was read last was wrong", Refused.STATE,
                AgainEdgesTest::readWrong, x -> x.again());
        Refused.leavesAll("what was read last was too long", Refused.STATE,
                AgainEdgesTest::readTooMany, x -> x.again());
        Check.due("two were read", read(texts(0), 2).again(), 11);
    }

    /** Local parts of the empty space: nine or ten in one table, and one more in another. */
    private static LearnedCodes locals(int count, String more) {
        LearnedCodes x = new LearnedCodes();
        x.open(0, 1);
        for (int local = 2; local <= count; local++) {
            x.attribute(0, local, 0);
        }
        x.keep();
        Code.push(x, more);
        return x;
    }

    private static void attributeOfEleventhLocal() {
        LearnedCodes ten = locals(9, "1000 01 0 0000 0001 1011 0001 0010" + "1001 00");
        Check.due("read", Check.outcome(() -> ten.read()), 11);
        Check.due("ten go into one table", Check.outcome(() -> ten.again()), 183);
        LearnedCodes eleven = locals(10, "1001 01 0 0000 0001 1011 0001 0010" + "1010 00");
        Check.due("read", Check.outcome(() -> eleven.read()), 12);
        Check.refused("eleven do not", Refused.FULL, () -> eleven.again());
        Check.due("written", eleven.written(), 0);
        Check.due("the eleventh was read", Code.event(eleven, 10), "2 0 11 0");
    }

    private static void openOfEleventhLocal() {
        LearnedCodes ten = locals(9, "1000 10 0 0000 0001 1011 0001" + "00" + "0");
        Check.due("read", Check.outcome(() -> ten.read()), 12);
        Check.due("ten go into one table", Check.outcome(() -> ten.again()), 176);
        LearnedCodes eleven = locals(10, "1001 10 0 0000 0001 1011 0001" + "00" + "0");
        Check.due("read", Check.outcome(() -> eleven.read()), 13);
        Check.refused("eleven do not", Refused.FULL, () -> eleven.again());
        Check.due("written", eleven.written(), 0);
        Check.due("the eleventh was read", Code.event(eleven, 10), "1 0 11 0");
    }

    private static void tooManyBits(String what, String more) {
        LearnedCodes x = Code.filled(3801);
        x.keep();
        Code.push(x, more);
        x.read();
        Check.refused(what, Refused.FULL, () -> x.again());
        Check.due(what + ": written", x.written(), 0);
        Check.refused(what + " again", Refused.FULL, () -> x.again());
    }

    private static void tooManyBits() {
        LearnedCodes x = Code.filled(3800);
        x.close();
        x.keep();
        x.read();
        Check.due("CLOSE at 3800", x.again(), 3802);
        tooManyBits("CLOSE at 3801", "01");
        tooManyBits("TEXT at 3801", "00 0010 01");
        tooManyBits("OPEN at 3801", "10 0 1 0001 0010 00 10");
    }

    private static void nothingIsWritten() {
        LearnedCodes x = locals(10, "1001 01 0 0000 0001 1011 0001 0010" + "1010 00");
        x.read();
        int taken = x.taken();
        Check.refused("again", Refused.FULL, () -> x.again());
        Check.due("written", x.written(), 0);
        Check.refused("no element is open", Refused.STATE, () -> x.close());
        Check.refused("no element is open", Refused.STATE, () -> x.text(0));
        Check.refused("no element is open", Refused.STATE, () -> x.attribute(0, 1, 1));
        Check.due("the events stay", Code.event(x, 11), "4 0 0 0");
        Check.due("taken stays", x.taken(), taken);
        Check.due("the stream stays", Check.outcome(() -> x.read()), 12);
        x.open(0, 11);
        x.close();
        Check.due("a document may begin", Code.kept(x), Code.join("1 0001 1011 0001 00"));
    }
}
