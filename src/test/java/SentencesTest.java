/** Tests for the sentences of the document that name no boundary, under their own words. */
public final class SentencesTest {
    private static final int RUNS = 300;

    public static void main(String[] args) {
        Check.sentence("What it is",
                "names and values that came before are told by their places in tables,",
                SentencesTest::cameBefore);
        Check.sentence("What it is",
                "and what may come next by codes of grammars that learn, element by element, what "
                + "has come;", SentencesTest::learnedByElements);
        Check.sentence("What it is", "any bits are read, or it is told where they are wrong.",
                SentencesTest::anyBits);
        Check.sentence("Terms",
                "A DOCUMENT is a row of EVENTS: 1 OPEN a name; 2 ATTRIBUTE, a name and a value; "
                + "3 TEXT, a value; 4 CLOSE.", SentencesTest::rowOfEvents);
        Check.sentence("Terms", "LETTERS of a text are a number each.",
                SentencesTest::lettersAreNumbers);
        Check.sentence("Terms", "OPEN or ATTRIBUTE of a name, TEXT, CLOSE.",
                SentencesTest::kindsOfCodes);
        Check.sentence("Terms", "Behind the code come: of OPEN and ATTRIBUTE that were not "
                + "learned, the name (space, then local part);", SentencesTest::spaceThenLocal);
        Check.sentence("Promise 2", "OPEN is written.", SentencesTest::openIsWritten);
        Check.sentence("Promise 3", "ATTRIBUTE is written.", SentencesTest::attributeIsWritten);
        Check.sentence("Promise 4", "TEXT is written.", SentencesTest::textIsWritten);
        Check.sentence("Promise 5", "CLOSE is written:", SentencesTest::closeIsWritten);
        Check.end();
    }

    /** The bits that come with the call, behind those that are written. */
    private static String bitsOf(LearnedCodes x, Runnable call) {
        int before = x.written();
        call.run();
        return Code.keptFrom(x, before);
    }

    private static LearnedCodes opened() {
        LearnedCodes x = new LearnedCodes();
        x.open(0, 1);
        return x;
    }

    private static void cameBefore() {
        LearnedCodes x = new LearnedCodes();
        x.open(Code.text("c"), Code.text("a"));
        x.text(Code.text("hello"));
        Check.due("a name that came, and its value", bitsOf(x, () -> {
            x.open(Code.text("c"), Code.text("a"));
            x.text(Code.text("hello"));
        }), Code.join("1 0 10 0000", "0 0000"));
    }

    private static void learnedByElements() {
        LearnedCodes x = opened();
        x.open(0, Code.text("b"));
        Check.due("CLOSE in b", bitsOf(x, () -> x.close()), "00");
        x.open(0, Code.text("b"));
        Check.due("CLOSE in b, learned", bitsOf(x, () -> x.close()), "0");
        x.open(0, Code.text("c"));
        Check.due("CLOSE in c, not learned there", bitsOf(x, () -> x.close()), "00");
    }

    private static void anyBits() {
        long seed = 16;
        for (int run = 0; run < RUNS; run++) {
            LearnedCodes x = new LearnedCodes();
            int size = 0;
            for (int i = 0; i <= run; i++) {
                seed = seed * 6364136223846793005L + 1442695040888963407L;
                size = x.push(seed < 0);
            }
            String outcome = Check.outcome(() -> x.read());
            boolean isWrong = outcome.equals("throws.IllegalArgumentException");
            boolean isWhole = outcome.matches("\\d+");
            Check.due("run " + run + " is read or wrong: " + outcome, isWhole || isWrong, true);
            Check.due("run " + run + " takes bits that are there",
                    x.taken() >= 0 && x.taken() <= size, true);
        }
    }

    private static void rowOfEvents() {
        LearnedCodes x = opened();
        x.attribute(Code.text("c"), Code.text("b"), Code.text("d"));
        x.text(Code.text("e"));
        x.close();
        x.keep();
        Check.due("events", x.read(), 4);
        Check.due("OPEN", Code.event(x, 0), "1 0 1 0");
        Check.due("ATTRIBUTE", Code.event(x, 1), "2 3 2 4");
        Check.due("TEXT", Code.event(x, 2), "3 0 0 5");
        Check.due("CLOSE", Code.event(x, 3), "4 0 0 0");
    }

    private static void lettersAreNumbers() {
        LearnedCodes x = opened();
        Check.due("ahz", bitsOf(x, () -> x.text(Code.text("ahz"))),
                Code.join("11", "0101", "0001", "1000 0001", "1010 0011"));
    }

    private static void kindsOfCodes() {
        LearnedCodes x = opened();
        x.attribute(0, Code.text("b"), 0);
        x.attribute(0, Code.text("c"), 0);
        Check.due("ATTRIBUTE of b, the second of two that are learned",
                bitsOf(x, () -> x.attribute(0, Code.text("b"), 0)), Code.join("01", "0010"));
        Check.due("OPEN of b, which is another code",
                bitsOf(x, () -> x.open(0, Code.text("b"))), Code.join("10 10", "1", "0000 01"));
        x.close();
        Check.due("TEXT behind it", bitsOf(x, () -> x.text(0)), Code.join("1 1", "0010"));
        Check.due("TEXT, learned", bitsOf(x, () -> x.text(0)), Code.join("00", "0010"));
        Check.due("OPEN of b, not learned in CONTENT",
                bitsOf(x, () -> x.open(0, Code.text("b"))), Code.join("10 0", "1", "0000 01"));
        Check.due("CLOSE of b, learned", bitsOf(x, () -> x.close()), "0");
    }

    private static void spaceThenLocal() {
        LearnedCodes x = opened();
        Check.due("ATTRIBUTE of c:b", bitsOf(x, () -> x.attribute(3, 2, 0)),
                Code.join("01", "0 0001 0011", "0001 0010", "0010"));
        Check.due("OPEN of e:d", bitsOf(x, () -> x.open(5, 4)),
                Code.join("1 10", "00 0001 0101", "0001 0100"));
    }

    private static void openIsWritten() {
        LearnedCodes x = new LearnedCodes();
        Check.due("the first OPEN", bitsOf(x, () -> x.open(0, 1)), Code.join("1", "0001 0001"));
        Check.due("OPEN in TAG", bitsOf(x, () -> x.open(0, 2)),
                Code.join("10", "1", "0001 0010"));
        x.close();
        Check.due("OPEN in CONTENT", bitsOf(x, () -> x.open(0, 3)),
                Code.join("1 0", "1", "0001 0011"));
    }

    private static void attributeIsWritten() {
        LearnedCodes x = opened();
        Check.due("ATTRIBUTE", bitsOf(x, () -> x.attribute(0, 2, 30)),
                Code.join("01", "1", "0001 0010", "0100 0011 0001"));
        Check.due("ATTRIBUTE, learned", bitsOf(x, () -> x.attribute(0, 2, 4)),
                Code.join("0", "0011 0100"));
    }

    private static void textIsWritten() {
        LearnedCodes x = opened();
        Check.due("TEXT in TAG", bitsOf(x, () -> x.text(5)), Code.join("11", "0011 0101"));
        Check.due("TEXT in CONTENT", bitsOf(x, () -> x.text(6)), Code.join("1 1", "0011 0110"));
        Check.due("TEXT, learned", bitsOf(x, () -> x.text(6)), Code.join("00", "0000 1"));
    }

    private static void closeIsWritten() {
        LearnedCodes x = opened();
        x.open(0, 2);
        Check.due("CLOSE in TAG", bitsOf(x, () -> x.close()), "00");
        Check.due("CLOSE in CONTENT", bitsOf(x, () -> x.close()), "0");
    }
}
