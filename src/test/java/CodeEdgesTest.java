/** The edges of the grammars and their codes, of the Terms, in writing and in reading. */
public final class CodeEdgesTest {
    private static final String OPEN_A = "1 0001 0001";

    public static void main(String[] args) {
        Check.sentence("Terms",
                "each name has two rows of CODES that it LEARNED, TAG and CONTENT, at first "
                + "empty", CodeEdgesTest::atFirstEmpty);
        Check.sentence("Terms, TAG, ATTRIBUTE", "at most 12 in each",
                CodeEdgesTest::twelfthAttribute);
        Check.sentence("Terms, TAG, TEXT", "at most 12 in each", CodeEdgesTest::twelfthTextInTag);
        Check.sentence("Terms, TAG, OPEN", "at most 12 in each", CodeEdgesTest::twelfthOpenInTag);
        Check.sentence("Terms, TAG, CLOSE", "at most 12 in each", CodeEdgesTest::twelfthCloseInTag);
        Check.sentence("Terms, CONTENT, OPEN", "at most 12 in each", CodeEdgesTest::twelfthOpen);
        Check.sentence("Terms, CONTENT, TEXT", "at most 12 in each", CodeEdgesTest::twelfthText);
        Check.sentence("Terms, one row may be full and the other not", "at most 12 in each",
                CodeEdgesTest::oneRowIsFull);
        Check.sentence("Terms",
                "In an element of the name, up to the first text or element in it, TAG says "
                + "what may come", CodeEdgesTest::upToTheFirst);
        Check.sentence("Terms",
                "a place, of one more than it has: that of a learned code, or as many as "
                + "there are, and then a place of 4: 0 CLOSE, 1 ATTRIBUTE, 2 OPEN, 3 TEXT.",
                CodeEdgesTest::placesOfTag);
        Check.sentence("Terms",
                "Then CONTENT does: a place, of two more than it has: that of a learned "
                + "code; or as many as there are: CLOSE; or one more, and then a place of 2: 0 "
                + "OPEN, 1 TEXT.", CodeEdgesTest::placesOfContent);
        Check.sentence("Terms",
                "What is told by that last place is learned: it comes in front of the row's "
                + "others,", CodeEdgesTest::inFront);
        Check.sentence("Terms", "if it is not there yet", CodeEdgesTest::notThereYet);
        Check.sentence("Terms", "and there are fewer than 12.",
                CodeEdgesTest::fewerThanTwelveAreRead);
        Check.sentence("Terms", "of OPEN and ATTRIBUTE that were not learned, the name",
                CodeEdgesTest::nameOfNotLearned);
        Check.sentence("Terms",
                "of ATTRIBUTE the value, by the tables of its name; of TEXT the value, by "
                + "those of its element's name.", CodeEdgesTest::valuesOfWhichName);
        Check.sentence("Terms", "The first OPEN has no code; its name comes at once.",
                CodeEdgesTest::firstOpen);
        Check.sentence("Terms", "Behind the last CLOSE there is nothing.",
                CodeEdgesTest::lastClose);
        Check.sentence("Terms",
                "WRITING a document event by event, a learned code is taken if there is one.",
                CodeEdgesTest::learnedIsTaken);
        Check.sentence("Terms", "READING goes by whatever codes there are.",
                CodeEdgesTest::whateverCodes);
        Check.end();
    }

    private static int space(int i) {
        return i / 9;
    }

    private static int local(int i) {
        return i % 9 + 1;
    }

    /** In b within a, whose content has text: b has so many attributes, each with a code. */
    private static LearnedCodes tag(int attributes) {
        LearnedCodes x = new LearnedCodes();
        x.open(0, 1);
        x.text(0);
        x.open(0, 2);
        for (int i = 0; i < attributes; i++) {
            x.attribute(space(i), local(i), 0);
        }
        return x;
    }

    /** In the content of a, with so many elements before, each with a code. */
    private static LearnedCodes content(int elements) {
        LearnedCodes x = new LearnedCodes();
        x.open(0, 1);
        x.text(0);
        for (int i = 0; i < elements; i++) {
            x.open(space(i), local(i));
            x.close();
        }
        return x;
    }

    /** Closes all and reads it. */
    private static void readsBack(LearnedCodes x, int events) {
        int more = 1;
        while (x.close() > 0) {
            more++;
        }
        int bits = x.keep();
        Check.due("read", Check.outcome(() -> x.read()), events + more);
        Check.due("taken", x.taken(), bits);
    }

    private static void atFirstEmpty() {
        LearnedCodes x = new LearnedCodes();
        x.open(0, 1);
        x.text(0);
        x.open(0, 2);
        x.text(0);
        x.close();
        x.close();
        Check.due("rows of a, and rows of b", Code.kept(x), Code.join(OPEN_A, "11 0010",
                "1 0 1 0001 0010", "11 0010", "0", "01"));
        LearnedCodes y = new LearnedCodes();
        y.open(0, 1);
        y.text(0);
        y.text(0);
        y.open(0, 1);
        y.text(0);
        y.text(0);
        Check.due("another element of the name has the same rows", Code.kept(y),
                Code.join(OPEN_A, "11 0010", "1 1 0010", "10 0 1 0000", "0 0010", "01 0010"));
        readsBack(y, 6);
    }

    private static void twelfthAttribute() {
        LearnedCodes x = tag(11);
        int before = x.written();
        x.attribute(1, 3, 0);
        x.attribute(1, 3, 0);
        x.attribute(1, 4, 0);
        x.attribute(1, 4, 0);
        x.attribute(1, 3, 0);
        x.attribute(0, 1, 0);
        Check.due("the twelfth is learned, the 13th is not", Code.keptFrom(x, before),
                Code.join("1011 01 10 0001 0011 0010", "0000 0010",
                        "1100 01 10 0001 0100 0010", "1100 01 10 0000 11 0010", "0000 0010",
                        "1011 0010"));
        readsBack(x, 3 + 11 + 6);
    }

    private static void twelfthTextInTag() {
        LearnedCodes x = tag(11);
        x.text(0);
        x.close();
        x.open(0, 2);
        int before = x.written();
        x.text(0);
        Check.due("the twelfth is learned", Code.keptFrom(x, before), Code.join("0000 0010"));
        readsBack(x, 3 + 11 + 4);
        LearnedCodes y = tag(12);
        y.text(0);
        y.close();
        y.open(0, 2);
        before = y.written();
        y.text(0);
        Check.due("the 13th is not", Code.keptFrom(y, before), Code.join("1100 11 0010"));
        readsBack(y, 3 + 12 + 4);
    }

    private static void twelfthOpenInTag() {
        LearnedCodes x = tag(11);
        x.open(0, 1);
        x.close();
        x.close();
        x.open(0, 2);
        int before = x.written();
        x.open(0, 1);
        Check.due("the twelfth is learned", Code.keptFrom(x, before), Code.join("0000"));
        readsBack(x, 3 + 11 + 5);
        LearnedCodes y = tag(12);
        y.open(0, 1);
        y.close();
        y.close();
        y.open(0, 2);
        before = y.written();
        y.open(0, 1);
        Check.due("the 13th is not", Code.keptFrom(y, before),
                Code.join("1100 10 01 0000 0000"));
        readsBack(y, 3 + 12 + 5);
    }

    private static void twelfthCloseInTag() {
        LearnedCodes x = tag(11);
        x.close();
        x.open(0, 2);
        int before = x.written();
        x.close();
        Check.due("the twelfth is learned", Code.keptFrom(x, before), Code.join("0000"));
        readsBack(x, 3 + 11 + 3);
        LearnedCodes y = tag(12);
        y.close();
        y.open(0, 2);
        before = y.written();
        y.close();
        Check.due("the 13th is not", Code.keptFrom(y, before), Code.join("1100 00"));
        readsBack(y, 3 + 12 + 3);
    }

    private static void twelfthOpen() {
        LearnedCodes x = content(11);
        int before = x.written();
        x.open(1, 3);
        x.close();
        x.open(1, 3);
        x.close();
        x.open(1, 4);
        x.close();
        x.open(1, 4);
        x.close();
        x.open(1, 3);
        x.close();
        Check.due("the twelfth is learned, the 13th is not", Code.keptFrom(x, before),
                Code.join("1100 0 10 0001 0011", "00", "0000", "0",
                        "1101 0 10 0001 0100", "00", "1101 0 10 0000 11", "0", "0000", "0"));
        readsBack(x, 2 + 22 + 10);
    }

    private static void twelfthText() {
        LearnedCodes x = content(11);
        int before = x.written();
        x.text(0);
        x.text(0);
        x.close();
        Check.due("the twelfth is learned", Code.keptFrom(x, before),
                Code.join("1100 1 0010", "0000 0010", "1100"));
        LearnedCodes y = content(12);
        before = y.written();
        y.text(0);
        y.text(0);
        y.close();
        Check.due("the 13th is not", Code.keptFrom(y, before),
                Code.join("1101 1 0010", "1101 1 0010", "1100"));
        Reads.whole("twelve", x, 2 + 22 + 3);
        Reads.whole("thirteen", y, 2 + 24 + 3);
    }

    private static void oneRowIsFull() {
        LearnedCodes x = tag(12);
        x.text(0);
        int before = x.written();
        x.text(0);
        x.text(0);
        Check.due("CONTENT learns when TAG is full", Code.keptFrom(x, before),
                Code.join("1 1 0010", "00 0010"));
        LearnedCodes y = content(12);
        y.open(0, 1);
        before = y.written();
        y.attribute(0, 1, 0);
        y.attribute(0, 1, 0);
        Check.due("TAG learns when CONTENT is full", Code.keptFrom(y, before),
                Code.join("10 01 01 0000 0000 0010", "00 0010"));
    }

    private static void upToTheFirst() {
        LearnedCodes x = new LearnedCodes();
        x.open(0, 1);
        x.text(0);
        x.text(0);
        Check.due("a text by TAG, the next by CONTENT", Code.kept(x),
                Code.join(OPEN_A, "11 0010", "1 1 0010"));
        LearnedCodes y = new LearnedCodes();
        y.open(0, 1);
        y.open(0, 2);
        y.close();
        y.open(0, 2);
        y.close();
        y.close();
        Check.due("an element by TAG, the next by CONTENT", Code.kept(y),
                Code.join(OPEN_A, "10 1 0001 0010", "00", "1 0 1 0000 1", "0", "01"));
        LearnedCodes z = new LearnedCodes();
        z.open(0, 1);
        z.attribute(0, 1, 0);
        z.attribute(0, 1, 0);
        z.close();
        Check.due("attributes, and CLOSE behind them, by TAG", Code.kept(z),
                Code.join(OPEN_A, "01 1 0000 0010", "0 0010", "1 00"));
    }

    private static void placesOfTag() {
        Reads.whole("0 CLOSE", new LearnedCodes(), 2, OPEN_A, "00");
        Reads.whole("1 ATTRIBUTE", new LearnedCodes(), 3, OPEN_A, "01 1 0000 0010", "1 00");
        Reads.whole("2 OPEN", new LearnedCodes(), 4, OPEN_A, "10 1 0001 0010", "00", "0");
        Reads.whole("3 TEXT", new LearnedCodes(), 3, OPEN_A, "11 0010", "0");
        LearnedCodes x = new LearnedCodes();
        String codes = OPEN_A + "01 1 0000 0010" + "1 01 1 0001 0010 0010";
        Reads.whole("learned codes of 3", x, 6, codes, "00 0010", "01 0010", "10 00");
        Check.due("place 0", Code.event(x, 3), "2 0 2 0");
        Check.due("place 1", Code.event(x, 4), "2 0 1 0");
        Reads.wrong("place 3 of 3", new LearnedCodes(), codes, "11");
        Reads.wrong("place 13 of 13", tag(12), "1101");
        Reads.wrong("place 15 of 13", tag(12), "1111");
        LearnedCodes y = tag(12);
        Reads.whole("places 0, 11 and 12 of 13", y, 3 + 12 + 4, "0000 0010", "1011 0010",
                "1100 00", "01");
        Check.due("place 0 of 13", Code.event(y, 15), "2 1 3 0");
        Check.due("place 11 of 13", Code.event(y, 16), "2 0 1 0");
    }

    private static void placesOfContent() {
        String text = OPEN_A + "11 0010";
        Reads.whole("as many as there are: CLOSE", new LearnedCodes(), 3, text, "0");
        Reads.whole("0 OPEN", new LearnedCodes(), 5, text, "1 0 1 0001 0010", "00", "01");
        Reads.whole("1 TEXT", new LearnedCodes(), 4, text, "1 1 0010", "01");
        Reads.whole("a learned code of 3", new LearnedCodes(), 5, text, "1 1 0010", "00 0010",
                "01");
        Reads.wrong("place 3 of 3", new LearnedCodes(), text, "1 1 0010", "11");
        Reads.wrong("place 14 of 14", content(12), "1110");
        Reads.wrong("place 15 of 14", content(12), "1111");
        LearnedCodes x = content(12);
        Reads.whole("places 0, 11, 13 and 12 of 14", x, 2 + 24 + 6, "0000", "0", "1011",
                "00", "1101 1 0010", "1100");
        Check.due("place 0 of 14", Code.event(x, 26), "1 1 3 0");
        Check.due("place 11 of 14", Code.event(x, 28), "1 0 1 0");
        Check.due("place 13 of 14", Code.event(x, 30), "3 0 0 0");
        Check.due("place 12 of 14", Code.event(x, 31), "4 0 0 0");
    }

    private static void inFront() {
        LearnedCodes x = tag(3);
        int before = x.written();
        x.attribute(0, 1, 0);
        x.attribute(0, 2, 0);
        x.attribute(0, 3, 0);
        Check.due("the first one is the last", Code.keptFrom(x, before),
                Code.join("10 0010", "01 0010", "00 0010"));
        LearnedCodes y = content(3);
        before = y.written();
        y.open(0, 2);
        y.close();
        y.open(0, 3);
        y.close();
        Check.due("in CONTENT, too", Code.keptFrom(y, before),
                Code.join("001", "0", "000", "0"));
        LearnedCodes z = new LearnedCodes();
        z.open(0, 1);
        z.text(0);
        z.open(0, 1);
        z.text(0);
        z.close();
        z.close();
        Check.due("CLOSE in CONTENT is not told by that place", Code.kept(z),
                Code.join(OPEN_A, "11 0010", "1 0 1 0000", "0 0010", "01", "01"));
    }

    private static void notThereYet() {
        String twice = OPEN_A + "01 1 0000 0010" + "1 01 1 0000 0010";
        Reads.whole("ATTRIBUTE twice", new LearnedCodes(), 5, twice, "0 0010", "1 00");
        Reads.whole("TEXT twice in CONTENT", new LearnedCodes(), 5, OPEN_A, "11 0010",
                "1 1 0010", "10 1 0010", "01");
        Reads.whole("OPEN twice in CONTENT", new LearnedCodes(), 7, OPEN_A, "11 0010",
                "1 0 1 0001 0010", "00", "10 0 1 0000 1", "0", "01");
        // the element a within a: its tag has learned OPEN a and then TEXT or CLOSE
        String inner = OPEN_A + "10 1 0000";
        Reads.whole("OPEN twice in TAG", new LearnedCodes(), 6, inner, "1 10 1 0000", "1 00",
                "0", "0");
        Reads.whole("TEXT twice in TAG", new LearnedCodes(), 8, inner, "1 11 0010",
                "1 0 1 0000", "10 11 0010", "01", "01", "01");
        Reads.whole("CLOSE twice in TAG", new LearnedCodes(), 8, inner, "1 00",
                "1 0 1 0000", "10 00", "00", "00", "01");
    }

    private static void fewerThanTwelveAreRead() {
        LearnedCodes x = tag(11);
        Reads.whole("the twelfth", x, 3 + 11 + 4, "1011 01 10 0001 0011 0010", "0000 0010",
                "1100 00", "01");
        Check.due("it is in front", Code.event(x, 15), "2 1 3 0");
        LearnedCodes y = tag(12);
        Reads.whole("the 13th", y, 3 + 12 + 4, "1100 01 10 0001 0100 0010", "0000 0010",
                "1100 00", "01");
        Check.due("the twelfth is in front", Code.event(y, 16), "2 1 3 0");
        LearnedCodes z = content(12);
        Reads.whole("the 13th in CONTENT", z, 2 + 24 + 5, "1101 0 10 0001 0100", "00", "0000",
                "0", "1100");
        Check.due("the twelfth is in front", Code.event(z, 28), "1 1 3 0");
    }

    private static void nameOfNotLearned() {
        LearnedCodes x = new LearnedCodes();
        x.open(2, 1);
        x.attribute(2, 1, 0);
        x.attribute(2, 1, 0);
        x.open(2, 1);
        x.open(2, 1);
        Check.due("the name behind the first of each alone", Code.kept(x),
                Code.join("0 0001 0010 0001 0001", "01 10 0000 0010", "0 0010", "1 10 10 0000",
                        "00"));
        readsBack(x, 5);
        Check.due("the learned attribute has the name", Code.event(x, 2), "2 2 1 0");
        Check.due("the learned element has the name", Code.event(x, 4), "1 2 1 0");
    }

    private static void valuesOfWhichName() {
        LearnedCodes x = new LearnedCodes();
        x.open(0, 1);
        x.attribute(0, 2, 3);
        x.attribute(0, 3, 4);
        x.text(5);
        x.open(0, 2);
        x.text(3);
        x.text(5);
        x.close();
        x.text(5);
        x.text(4);
        x.open(0, 3);
        x.text(4);
        Check.due("of b, c and a", Code.kept(x), Code.join(OPEN_A, "01 1 0001 0010 0011 0011",
                "1 01 1 0001 0011 0011 0100", "10 11 0011 0101", "1 0 1 0000 01", "11 0000",
                "1 1 0001 10", "01", "10 1 0000", "00 0001 01", "11 0 1 0000 10", "11 0000"));
        readsBack(x, 12);
        Check.due("of b", Code.event(x, 5), "3 0 0 3");
        Check.due("of all", Code.event(x, 6), "3 0 0 5");
        Check.due("of a", Code.event(x, 8), "3 0 0 5");
        Check.due("of c", Code.event(x, 11), "3 0 0 4");
    }

    private static void firstOpen() {
        LearnedCodes x = new LearnedCodes();
        x.open(0, 1);
        Check.due("the name at once", Code.kept(x), Code.join(OPEN_A));
        x.open(0, 1);
        Check.due("the second one has a code", Code.keptFrom(x, 9), Code.join("10 1 0000"));
        Reads.wrong("the first bit is that of the space", new LearnedCodes(), "1 0000");
        Reads.whole("the first OPEN is not learned", new LearnedCodes(), 4, OPEN_A,
                "10 1 0000", "1 00", "0");
    }

    private static void lastClose() {
        LearnedCodes x = new LearnedCodes();
        x.open(0, 1);
        x.close();
        Check.due("two bits of CLOSE alone", Code.kept(x), Code.join(OPEN_A, "00"));
        Reads.whole("read", x, 2);
        LearnedCodes y = content(1);
        int before = y.written();
        y.close();
        Check.due("a place of 3 alone", y.written() - before, 2);
    }

    private static void learnedIsTaken() {
        LearnedCodes x = Code.streamOf(OPEN_A, "01 1 0000 0010", "1 01 1 0000 0010",
                "1 11 0010", "1 1 0010", "10 1 0010", "10 0 1 0000", "10 00",
                "11 0 1 0000", "11 00", "10");
        Check.due("codes that are told again are read", Check.outcome(() -> x.read()), 11);
        x.again();
        Check.due("but written by their places", Code.kept(x), Code.join(OPEN_A,
                "01 1 0000 0010", "0 0010", "1 11 0010", "1 1 0010", "00 0010", "10 0 1 0000",
                "10 00", "00", "00", "10"));
    }

    private static void whateverCodes() {
        LearnedCodes x = Code.streamOf(OPEN_A, "01 1 0000 0010", "1 01 1 0000 0010",
                "0 0010", "1 00");
        Check.due("learned or not", Check.outcome(() -> x.read()), 5);
        for (int i = 1; i <= 3; i++) {
            Check.due("attribute", Code.event(x, i), "2 0 1 0");
        }
        Check.due("taken", x.taken(), 9 + 11 + 12 + 5 + 3);
    }
}
