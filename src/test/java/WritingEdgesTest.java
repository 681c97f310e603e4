/** The edges of promises 1 to 7: a new object, the limit of written bits, and 512 calls. */
public final class WritingEdgesTest {
    private static final int ZZZZZ = 14348906;

    public static void main(String[] args) {
        Check.sentence("What it is",
                "An object is used for at most 512 calls after it has been made",
                WritingEdgesTest::call512);
        Check.sentence("Promise 1", "Nothing is written,", WritingEdgesTest::nothingIsWritten);
        Check.sentence("Promise 1", "the stream is empty,", WritingEdgesTest::streamIsEmpty);
        Check.sentence("Promise 1", "nothing was read.", WritingEdgesTest::nothingWasRead);
        Check.sentence("Promise 2", "or more than 3800 bits are written",
                WritingEdgesTest::openAt3800);
        Check.sentence("Promise 3, 3800 bits", "UnsupportedOperationException as for open",
                WritingEdgesTest::attributeAt3800);
        Check.sentence("Promise 4",
                "UnsupportedOperationException: more than 3800 bits are written",
                WritingEdgesTest::textAt3800);
        Check.sentence("Promise 5",
                "UnsupportedOperationException: more than 3800 bits are written",
                WritingEdgesTest::closeAt3800);
        Check.sentence("Promise 6", "Nothing is written any more", WritingEdgesTest::clearAt3800);
        Check.sentence("Promise 7", "How many bits are written.", WritingEdgesTest::howMany);
        Check.end();
    }

    private static void call512() {
        LearnedCodes x = new LearnedCodes();
        x.open(0, 1);
        for (int call = 2; call <= 511; call++) {
            x.text(0);
        }
        Check.due("the 512th call", x.close(), 0);
        LearnedCodes y = new LearnedCodes();
        for (int call = 1; call <= 512; call++) {
            Check.due("push", y.push(call % 2 == 0), call);
        }
        LearnedCodes z = Code.streamOf("1 0001 0001 00");
        for (int call = 12; call <= 511; call++) {
            z.flip(3);
        }
        Check.due("the 512th call", Check.outcome(() -> z.read()), 2);
    }

    private static void nothingIsWritten() {
        Check.due("written", new LearnedCodes().written(), 0);
        Check.due("keep", new LearnedCodes().keep(), 0);
        Check.refused("close", Refused.STATE, () -> new LearnedCodes().close());
        LearnedCodes x = new LearnedCodes();
        x.open(0, 1);
        Check.due("a document may begin", x.written(), 9);
    }

    private static void streamIsEmpty() {
        Check.refused("bit", Refused.INDEX, () -> new LearnedCodes().bit(0));
        Check.refused("flip", Refused.INDEX, () -> new LearnedCodes().flip(0));
        Check.refused("cut", Refused.ARGUMENT, () -> new LearnedCodes().cut(1));
        LearnedCodes x = new LearnedCodes();
        x.cut(0);
        Check.due("the first bit", x.push(true), 1);
    }

    private static void nothingWasRead() {
        Check.due("taken", new LearnedCodes().taken(), 0);
        Check.refused("event", Refused.INDEX, () -> new LearnedCodes().event(0, 0));
        Check.refused("again", Refused.STATE, () -> new LearnedCodes().again());
    }

    /** In the tag of b, with so many bits written. */
    private static LearnedCodes inTag(int bits) {
        LearnedCodes x = Code.filled(bits - 12);
        x.open(0, 2);
        Check.due("bits that are wanted", x.written(), bits);
        return x;
    }

    private static void openAt3800() {
        LearnedCodes x = Code.filled(3800);
        x.open(ZZZZZ, ZZZZZ);
        Check.due("the dearest one at 3800", x.written(), 3800 + 2 + 1 + 1 + 44 + 44);
        Check.refused("the next one", Refused.FULL, () -> x.open(0, 1));
        Check.refused("close, two elements are open", Refused.FULL, () -> x.close());
        LearnedCodes tag = inTag(3800);
        tag.open(0, 2);
        Check.due("in a tag", Code.keptFrom(tag, 3800), Code.join("10 1 0000 1"));
        Refused.leavesAll("at 3801", Refused.FULL, () -> Code.filled(3801), y -> y.open(0, 1));
        Refused.leavesAll("in a tag at 3801", Refused.FULL, () -> inTag(3801),
                y -> y.open(0, 2));
        whenCleared(Code.filled(3801), 0);
    }

    private static void attributeAt3800() {
        LearnedCodes x = inTag(3800);
        x.attribute(ZZZZZ, ZZZZZ, ZZZZZ);
        Check.due("the dearest one at 3800", x.written(), 3800 + 2 + 1 + 44 + 44 + 44);
        Check.refused("the next one", Refused.FULL, () -> x.attribute(0, 1, 0));
        Refused.leavesAll("at 3801", Refused.FULL, () -> inTag(3801),
                y -> y.attribute(0, 1, 0));
        Refused.leavesAll("of a new name at 3801", Refused.FULL, () -> inTag(3801),
                y -> y.attribute(3, 4, 5));
        whenCleared(inTag(3801), 1);
    }

    private static void textAt3800() {
        LearnedCodes x = Code.filled(3800);
        x.text(ZZZZZ);
        Check.due("the dearest one at 3800", x.written(), 3800 + 2 + 44);
        Check.refused("the next one", Refused.FULL, () -> x.text(0));
        LearnedCodes tag = inTag(3800);
        tag.text(0);
        Check.due("in a tag", Code.keptFrom(tag, 3800), Code.join("11 0010"));
        Refused.leavesAll("at 3801", Refused.FULL, () -> Code.filled(3801), y -> y.text(0));
        Refused.leavesAll("in a tag at 3801", Refused.FULL, () -> inTag(3801), y -> y.text(0));
        whenCleared(Code.filled(3801), 2);
    }

    private static void closeAt3800() {
        LearnedCodes x = Code.filled(3800);
        Check.due("at 3800", x.close(), 0);
        Check.due("written", x.written(), 3802);
        LearnedCodes tag = inTag(3800);
        Check.due("in a tag", tag.close(), 1);
        Check.refused("the next one", Refused.FULL, () -> tag.close());
        Check.due("written", tag.written(), 3802);
        Refused.leavesAll("at 3801", Refused.FULL, () -> Code.filled(3801), y -> y.close());
        Refused.leavesAll("in a tag at 3801", Refused.FULL, () -> inTag(3801), y -> y.close());
        whenCleared(Code.filled(3801), 3);
    }

    /** Behind a call that was refused for its bits, clear() gives room again. */
    private static void whenCleared(LearnedCodes x, int which) {
        Check.refused("at 3801", Refused.FULL, () -> call(x, which));
        x.clear();
        x.open(0, 1);
        call(x, which);
        Check.due("cleared", x.written() > 9, true);
    }

    private static void call(LearnedCodes x, int which) {
        if (which == 0) {
            x.open(0, 1);
        } else if (which == 1) {
            x.attribute(0, 1, 0);
        } else if (which == 2) {
            x.text(0);
        } else {
            x.close();
        }
    }

    private static void clearAt3800() {
        LearnedCodes x = Code.filled(3801);
        x.clear();
        Check.due("written", x.written(), 0);
        Check.due("keep", x.keep(), 0);
        Check.due("as a new one", Refused.later(x), Refused.later(new LearnedCodes()));
        LearnedCodes y = new LearnedCodes();
        y.clear();
        y.clear();
        Check.due("twice", y.written(), 0);
    }

    private static void howMany() {
        LearnedCodes x = new LearnedCodes();
        Check.due("a new object", x.written(), 0);
        x.open(0, 1);
        Check.due("open", x.written(), 9);
        x.attribute(0, 1, 1);
        Check.due("attribute", x.written(), 24);
        x.text(0);
        Check.due("text", x.written(), 31);
        x.close();
        Check.due("close", x.written(), 32);
        Check.refused("text when whole", Refused.STATE, () -> x.text(0));
        Check.due("refused", x.written(), 32);
        x.keep();
        x.push(true);
        x.cut(3);
        x.flip(0);
        Check.due("the stream is another thing", x.written(), 32);
    }
}
