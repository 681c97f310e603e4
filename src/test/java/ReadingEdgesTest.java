/** The edges of promises 13 to 15: how many events are read, and what is asked of them. */
public final class ReadingEdgesTest {
    private static final String OPEN_A = "1 0001 0001";

    public static void main(String[] args) {
        Check.sentence("Promise 13", "The stream is read: how many events.",
                ReadingEdgesTest::howMany);
        Check.sentence("Promise 13", "IllegalArgumentException: it is wrong within 201 events",
                ReadingEdgesTest::wrongWithin201);
        Check.sentence("Promise 13",
                "UnsupportedOperationException: the 201st was read, and the document is not "
                + "whole before.", ReadingEdgesTest::the201st);
        Check.sentence("Promise 13, wrong", "(When it throws, no events are read.)",
                ReadingEdgesTest::noEventsWhenWrong);
        Check.sentence("Promise 13, too many", "(When it throws, no events are read.)",
                ReadingEdgesTest::noEventsWhenTooMany);
        Check.sentence("Promise 14", "How many bits were taken when the stream was read last",
                ReadingEdgesTest::takenLast);
        Check.sentence("Promise 14", "(or till it was wrong).", ReadingEdgesTest::takenTillWrong);
        Check.sentence("Promise 15", "Of event i that was read: what 0: its kind;",
                ReadingEdgesTest::kinds);
        Check.sentence("Promise 15",
                "1, 2: the space and local part of its name (0 for TEXT and CLOSE);",
                ReadingEdgesTest::names);
        Check.sentence("Promise 15", "3: its value (0 for OPEN and CLOSE).",
                ReadingEdgesTest::values);
        Check.sentence("Promise 15", "IndexOutOfBoundsException: there is no such event",
                ReadingEdgesTest::noEvent);
        Check.sentence("Promise 15", "IllegalArgumentException: what is not 0 .. 3.",
                ReadingEdgesTest::noPart);
        Check.end();
    }

    /** One element with so many empty texts, not closed. */
    private static LearnedCodes texts(int count) {
        LearnedCodes x = new LearnedCodes();
        x.open(0, 1);
        for (int i = 0; i < count; i++) {
            x.text(0);
        }
        return x;
    }

    private static LearnedCodes closed(int texts) {
        LearnedCodes x = texts(texts);
        x.close();
        return x;
    }

    private static void howMany() {
        Reads.whole("the least", closed(0), 2);
        Reads.whole("one more", closed(1), 3);
        Reads.whole("one fewer than the most", closed(197), 199);
        LearnedCodes x = closed(198);
        Reads.whole("the most", x, 200);
        Check.due("the first", x.event(0, 0), 1);
        Check.due("the last", x.event(199, 0), 4);
    }

    private static void wrongWithin201() {
        Reads.wrong("in the first", new LearnedCodes(), "1 0000");
        Reads.wrong("in the second", texts(0), "11 0000");
        Reads.wrong("in the 200th", texts(198), "00 0000");
        Reads.wrong("in the 201st", texts(199), "00 0000");
        Reads.wrong("the code of the 201st", texts(199), "11");
        LearnedCodes x = texts(199);
        int bits = x.keep();
        Reads.isWrong("the 201st is missing", x, bits);
        x.push(false);
        Reads.isWrong("a bit of the 201st is missing", x, bits + 1);
    }

    private static void tooMany(String what, LearnedCodes x, int taken) {
        Check.refused(what, Refused.FULL, () -> x.read());
        Check.due(what + ": taken", x.taken(), taken);
    }

    private static void the201st() {
        LearnedCodes x = texts(199);
        int bits = x.keep();
        x.push(false);
        x.push(true);
        tooMany("it is the last CLOSE", x, bits + 2);
        LearnedCodes y = texts(200);
        bits = y.keep();
        tooMany("it is a text", y, bits);
        Code.push(y, "11");
        tooMany("what is wrong behind it does not matter", y, bits);
        y.cut(bits - 1);
        Reads.isWrong("a bit of it is missing", y, bits - 1);
        Reads.whole("the 200th is the last CLOSE", closed(198), 200);
    }

    private static void noEvents(LearnedCodes x) {
        for (int i : new int[] {0, 1, 2, 199, 200, 201}) {
            Check.refused("event " + i, Refused.INDEX, () -> x.event(i, 0));
        }
        int written = x.written();
        Check.refused("again", Refused.STATE, () -> x.again());
        Check.due("what is written stays", x.written(), written);
    }

    private static void noEventsWhenWrong() {
        LearnedCodes x = closed(1);
        int bits = x.keep();
        Check.due("read", Check.outcome(() -> x.read()), 3);
        Check.due("there are events", x.event(2, 0), 4);
        x.cut(bits - 1);
        Reads.isWrong("cut", x, bits - 1);
        noEvents(x);
        Check.due("the stream stays", Code.stream(x, bits - 1), Code.join(OPEN_A, "11 0010"));
        x.push(false);
        Check.due("read", Check.outcome(() -> x.read()), 3);
        Check.due("there are events again", x.event(2, 0), 4);
        LearnedCodes y = Code.streamOf("1 0000 1111 1111");
        Reads.isWrong("no local part", y, 5);
        noEvents(y);
        Check.due("bits that were not taken stay", y.push(true), 14);
    }

    private static void noEventsWhenTooMany() {
        LearnedCodes x = closed(0);
        x.keep();
        Check.due("read", Check.outcome(() -> x.read()), 2);
        x.clear();
        x.open(0, 1);
        for (int i = 0; i < 200; i++) {
            x.text(0);
        }
        tooMany("201 events", x, x.keep());
        noEvents(x);
        Check.due("the stream stays", Code.keptFrom(x, x.written() - 6), Code.join("00 0010"));
    }

    private static void takenLast() {
        Check.due("nothing was read", new LearnedCodes().taken(), 0);
        LearnedCodes x = closed(0);
        x.keep();
        Check.due("not read yet", x.taken(), 0);
        x.push(true);
        Check.due("read", Check.outcome(() -> x.read()), 2);
        Check.due("not the bit behind", x.taken(), 11);
        x.cut(1);
        x.flip(0);
        x.push(true);
        x.clear();
        x.keep();
        x.again();
        Check.due("other calls leave it", x.taken(), 11);
        Check.refused("nothing is in the stream", Refused.ARGUMENT, () -> x.read());
        Check.due("the last time counts", x.taken(), 0);
        x.keep();
        Check.due("read", Check.outcome(() -> x.read()), 2);
        Check.due("and again", x.taken(), 11);
    }

    private static void takenTillWrong() {
        LearnedCodes x = Code.streamOf(OPEN_A, "11 0011 0000 0000 0000");
        Reads.isWrong("letter 0", x, 19);
        x.cut(18);
        Reads.isWrong("a bit is missing", x, 18);
        x.cut(0);
        Reads.isWrong("all are missing", x, 0);
        LearnedCodes y = texts(200);
        int bits = y.keep();
        Code.push(y, "0000");
        tooMany("the 201st is taken, too", y, bits);
    }

    private static LearnedCodes example() {
        LearnedCodes x = new LearnedCodes();
        x.open(2, 3);
        x.attribute(4, 5, 6);
        x.text(7);
        x.close();
        x.keep();
        x.read();
        return x;
    }

    private static String parts(int what) {
        LearnedCodes x = example();
        return x.event(0, what) + " " + x.event(1, what) + " " + x.event(2, what) + " "
                + x.event(3, what);
    }

    private static void kinds() {
        Check.due("kinds", parts(0), "1 2 3 4");
    }

    private static void names() {
        Check.due("spaces", parts(1), "2 4 0 0");
        Check.due("local parts", parts(2), "3 5 0 0");
    }

    private static void values() {
        Check.due("values", parts(3), "0 6 7 0");
    }

    private static void noEvent() {
        for (int i : new int[] {-1, 4, 5, 199, 200, 201, Integer.MAX_VALUE, Integer.MIN_VALUE}) {
            Refused.leavesAll("event " + i, Refused.INDEX, ReadingEdgesTest::example,
                    x -> x.event(i, 0));
        }
        Check.due("the first", example().event(0, 3), 0);
        Check.due("the last", example().event(3, 0), 4);
        for (int i : new int[] {-1, 0, 1}) {
            Refused.leavesAll("event " + i + " of none", Refused.INDEX, LearnedCodes::new,
                    x -> x.event(i, 0));
        }
        LearnedCodes most = closed(198);
        most.keep();
        most.read();
        Check.due("the 200th", most.event(199, 0), 4);
        Check.refused("the 201st", Refused.INDEX, () -> most.event(200, 0));
        most.clear();
        most.open(0, 1);
        most.close();
        most.keep();
        most.read();
        Check.due("the second", most.event(1, 0), 4);
        Check.refused("what was read before is gone", Refused.INDEX, () -> most.event(2, 0));
    }

    private static void noPart() {
        for (int what : new int[] {-1, 4, 5, Integer.MAX_VALUE, Integer.MIN_VALUE}) {
            for (int i = 0; i < 4; i++) {
                int event = i;
                Refused.leavesAll("event " + i + ", " + what, Refused.ARGUMENT,
                        ReadingEdgesTest::example, x -> x.event(event, what));
            }
        }
        Check.due("the least", example().event(1, 0), 2);
        Check.due("the highest", example().event(1, 3), 6);
    }
}
