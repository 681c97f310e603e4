/** The edges of a document and its elements, of the Terms and of promises 2 to 6. */
public final class ElementEdgesTest {
    public static void main(String[] args) {
        Check.sentence("Terms", "It is one element: OPEN,", ElementEdgesTest::openIsFirst);
        Check.sentence("Terms", "then attributes,", ElementEdgesTest::attributesComeFirst);
        Check.sentence("Terms", "then any texts and elements, one behind the other,",
                ElementEdgesTest::anyTextsAndElements);
        Check.sentence("Terms", "then CLOSE.", ElementEdgesTest::closeIsLast);
        Check.sentence("Terms", "At most 8 elements are open at one time.",
                ElementEdgesTest::eightAtOneTime);
        Check.sentence("Promise 2", "UnsupportedOperationException: 8 elements are open",
                ElementEdgesTest::openInTheEighth);
        Check.sentence("Promise 3",
                "UnsupportedOperationException as for open (but for the elements)",
                ElementEdgesTest::attributeInTheEighth);
        Check.sentence("Promise 2", "IllegalStateException: the document is whole",
                ElementEdgesTest::openWhenWhole);
        Check.sentence("Promise 3", "IllegalStateException: no element is open",
                ElementEdgesTest::attributeOutside);
        Check.sentence("Promise 3", "or the innermost one has text or an element already",
                ElementEdgesTest::attributeInContent);
        Check.sentence("Promise 4", "IllegalStateException: no element is open",
                ElementEdgesTest::textOutside);
        Check.sentence("Promise 5", "IllegalStateException: none is open",
                ElementEdgesTest::closeOutside);
        Check.sentence("Promise 5", "CLOSE is written: how many elements are open then.",
                ElementEdgesTest::openThen);
        Check.sentence("Promise 6", "Nothing is written any more; a document may begin.",
                ElementEdgesTest::clearBegins);
        Check.end();
    }

    private static LearnedCodes opened(int elements) {
        LearnedCodes x = new LearnedCodes();
        for (int i = 0; i < elements; i++) {
            x.open(0, 1);
        }
        return x;
    }

    private static LearnedCodes whole() {
        LearnedCodes x = opened(1);
        x.close();
        return x;
    }

    private static LearnedCodes behindText() {
        LearnedCodes x = opened(1);
        x.attribute(0, 2, 1);
        x.text(0);
        return x;
    }

    private static LearnedCodes behindElement() {
        LearnedCodes x = opened(2);
        x.close();
        return x;
    }

    private static void openIsFirst() {
        Refused.leavesAll("attribute", Refused.STATE, LearnedCodes::new,
                x -> x.attribute(0, 1, 1));
        Refused.leavesAll("text", Refused.STATE, LearnedCodes::new, x -> x.text(1));
        Refused.leavesAll("close", Refused.STATE, LearnedCodes::new, x -> x.close());
        Check.due("open", opened(1).written(), 9);
        Refused.leavesAll("a second element", Refused.STATE, ElementEdgesTest::whole,
                x -> x.open(0, 1));
    }

    private static void attributesComeFirst() {
        LearnedCodes x = opened(1);
        for (int i = 0; i < 100; i++) {
            x.attribute(0, 2, 0);
        }
        x.open(0, 2);
        x.attribute(0, 1, 0);
        Check.due("as many as there are, in each element", x.close(), 1);
        Refused.leavesAll("behind an empty text", Refused.STATE, ElementEdgesTest::behindText,
                y -> y.attribute(0, 2, 1));
        Refused.leavesAll("behind an empty element", Refused.STATE,
                ElementEdgesTest::behindElement, y -> y.attribute(0, 2, 1));
    }

    private static void anyTextsAndElements() {
        LearnedCodes x = opened(1);
        for (int i = 0; i < 4; i++) {
            x.text(i);
            x.text(i);
            x.open(0, 2);
            x.close();
            x.open(0, 2);
            x.close();
        }
        Check.due("texts and elements", x.close(), 0);
        x.keep();
        Check.due("read", Check.outcome(() -> x.read()), 2 + 4 * 6);
        StringBuilder kinds = new StringBuilder();
        for (int i = 0; i < 26; i++) {
            kinds.append(x.event(i, 0));
        }
        Check.due("in their order", kinds, "1" + "331414".repeat(4) + "4");
        Check.due("none at all", whole().written(), 11);
    }

    private static void closeIsLast() {
        Refused.leavesAll("open", Refused.STATE, ElementEdgesTest::whole, x -> x.open(0, 2));
        Refused.leavesAll("attribute", Refused.STATE, ElementEdgesTest::whole,
                x -> x.attribute(0, 2, 1));
        Refused.leavesAll("text", Refused.STATE, ElementEdgesTest::whole, x -> x.text(1));
        Refused.leavesAll("close", Refused.STATE, ElementEdgesTest::whole, x -> x.close());
        Check.due("behind the inner CLOSE more may come", behindElement().close(), 0);
    }

    private static void eightAtOneTime() {
        LearnedCodes x = opened(7);
        for (int i = 0; i < 20; i++) {
            x.open(0, 2);
            Check.refused("ninth", Refused.FULL, () -> x.open(0, 2));
            Check.due("the eighth is closed", x.close(), 7);
        }
        for (int i = 6; i >= 0; i--) {
            Check.due("close", x.close(), i);
        }
        x.keep();
        Check.due("eight are read", Check.outcome(() -> x.read()), 7 + 20 * 2 + 7);
        LearnedCodes y = opened(8);
        int bits = y.keep();
        y.push(false);
        Check.refused("nine are not read", Refused.ARGUMENT, () -> y.read());
        Check.due("taken", y.taken(), bits + 1);
    }

    private static void openInTheEighth() {
        Refused.leavesAll("ninth, of a learned code", Refused.FULL, () -> opened(8),
                x -> x.open(0, 1));
        Refused.leavesAll("ninth, of a new name", Refused.FULL, () -> opened(8),
                x -> x.open(1, 2));
        LearnedCodes x = opened(8);
        int before = x.written();
        Check.refused("ninth", Refused.FULL, () -> x.open(1, 2));
        Check.due("nothing is written", x.written(), before);
        x.text(0);
        Check.refused("ninth, behind text", Refused.FULL, () -> x.open(0, 1));
        Check.due("close", x.close(), 7);
        x.open(1, 2);
        Check.due("the new name was not there, nor its code", Code.keptFrom(x, before),
                Code.join("1 11 0010", "0", "1 0 0 0001 0001 0001 0010"));
    }

    private static void attributeInTheEighth() {
        LearnedCodes x = opened(8);
        int before = x.written();
        x.attribute(0, 1, 0);
        Check.due("attribute", Code.keptFrom(x, before), Code.join("1 01 1 0000 0010"));
        Check.due("close", x.close(), 7);
    }

    private static void openWhenWhole() {
        Refused.leavesAll("the same name", Refused.STATE, ElementEdgesTest::whole,
                x -> x.open(0, 1));
        Refused.leavesAll("a new name", Refused.STATE, ElementEdgesTest::whole,
                x -> x.open(3, 4));
        LearnedCodes y = behindElement();
        y.open(0, 1);
        Check.due("not whole before the last CLOSE", y.close(), 1);
    }

    private static void attributeOutside() {
        Refused.leavesAll("before the first OPEN", Refused.STATE, LearnedCodes::new,
                x -> x.attribute(0, 1, 0));
        Refused.leavesAll("behind the last CLOSE", Refused.STATE, ElementEdgesTest::whole,
                x -> x.attribute(0, 1, 0));
        LearnedCodes x = opened(1);
        x.attribute(0, 1, 0);
        Check.due("in an element", x.written(), 9 + 2 + 1 + 4 + 4);
    }

    private static void attributeInContent() {
        Refused.leavesAll("text", Refused.STATE, ElementEdgesTest::behindText,
                x -> x.attribute(0, 2, 1));
        Refused.leavesAll("an element", Refused.STATE, ElementEdgesTest::behindElement,
                x -> x.attribute(0, 2, 1));
        LearnedCodes x = behindText();
        x.open(0, 1);
        x.attribute(0, 2, 1);
        Check.due("the innermost one has none", x.close(), 1);
        Check.refused("but the outer one has", Refused.STATE, () -> x.attribute(0, 2, 1));
    }

    private static void textOutside() {
        Refused.leavesAll("before the first OPEN", Refused.STATE, LearnedCodes::new,
                x -> x.text(0));
        Refused.leavesAll("behind the last CLOSE", Refused.STATE, ElementEdgesTest::whole,
                x -> x.text(0));
        LearnedCodes x = opened(1);
        x.text(0);
        Check.due("in an element", x.written(), 9 + 2 + 4);
    }

    private static void closeOutside() {
        Refused.leavesAll("before the first OPEN", Refused.STATE, LearnedCodes::new,
                x -> x.close());
        Refused.leavesAll("behind the last CLOSE", Refused.STATE, ElementEdgesTest::whole,
                x -> x.close());
        Check.due("in an element", opened(1).close(), 0);
    }

    private static void openThen() {
        LearnedCodes x = opened(8);
        for (int i = 7; i >= 0; i--) {
            Check.due("close", x.close(), i);
        }
        Check.refused("no more", Refused.STATE, () -> x.close());
        Check.due("the only one", opened(1).close(), 0);
    }

    private static void clearBegins() {
        LearnedCodes x = new LearnedCodes();
        x.clear();
        Check.due("nothing was written", x.written(), 0);
        for (LearnedCodes y : new LearnedCodes[] {x, opened(8), whole(), behindText()}) {
            y.clear();
            Check.due("written", y.written(), 0);
            Check.refused("no element is open", Refused.STATE, () -> y.close());
            Check.due("as a new one", Refused.later(y), Refused.later(new LearnedCodes()));
        }
    }
}
