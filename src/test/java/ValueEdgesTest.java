/** The edges of the tables of values, of the Terms, in writing and in reading. */
public final class ValueEdgesTest {
    private static final String OPEN_A = "1 0001 0001";

    public static void main(String[] args) {
        Check.sentence("Terms", "VALUES of a name (at most 5)",
                ValueEdgesTest::fiveOfTextsAreWritten);
        Check.sentence("Terms, of an attribute", "VALUES of a name (at most 5)",
                ValueEdgesTest::fiveOfAttributesAreWritten);
        Check.sentence("Terms, read", "VALUES of a name (at most 5)", ValueEdgesTest::fiveAreRead);
        Check.sentence("Terms", "ALL values (at most 20)", ValueEdgesTest::twentyAreWritten);
        Check.sentence("Terms, read", "ALL values (at most 20)", ValueEdgesTest::twentyAreRead);
        Check.sentence("Terms",
                "one that is a value of the name is the number 0 and its place of these;",
                ValueEdgesTest::ofTheNameFirst);
        Check.sentence("Terms", "else one that is among all is the number 1 and its place of all;",
                ValueEdgesTest::amongAllNext);
        Check.sentence("Terms", "else it is the number of its letters and 2 more, and these,",
                ValueEdgesTest::lettersLast);
        Check.sentence("Terms", "and if it is not empty, it comes into both tables",
                ValueEdgesTest::emptyComesIntoNone);
        Check.sentence("Terms, that of the name", "(into one that is full it does not)",
                ValueEdgesTest::fullOfTheName);
        Check.sentence("Terms, that of all", "(into one that is full it does not)",
                ValueEdgesTest::fullOfAll);
        Check.sentence("Terms, both", "(into one that is full it does not)",
                ValueEdgesTest::fullBoth);
        Check.end();
    }

    /** The content of a, whose codes are TEXT alone, so that a text begins with 00. */
    private static LearnedCodes content() {
        LearnedCodes x = new LearnedCodes();
        x.open(0, 1);
        x.text(0);
        x.text(0);
        return x;
    }

    private static LearnedCodes texts(int values) {
        LearnedCodes x = content();
        for (int value = 1; value <= values; value++) {
            x.text(value);
        }
        return x;
    }

    /** The tag of e with so many values, five to each of the attributes a, b, c and d. */
    private static LearnedCodes attributes(int values) {
        LearnedCodes x = new LearnedCodes();
        x.open(0, 5);
        for (int value = 1; value <= values; value++) {
            x.attribute(0, 1 + (value - 1) / 5, value);
        }
        return x;
    }

    private static void fiveOfTextsAreWritten() {
        LearnedCodes x = texts(4);
        int before = x.written();
        x.text(5);
        x.text(5);
        x.text(6);
        x.text(6);
        x.text(5);
        x.text(1);
        Check.due("the fifth comes in, the sixth does not", Code.keptFrom(x, before),
                Code.join("00 0011 0101", "00 0000 100", "00 0011 0110", "00 0001 101",
                        "00 0000 100", "00 0000 000"));
        Reads.whole("read", x, 3 + 4 + 6 + 1, "01");
        Check.due("the fifth", x.event(8, 3), 5);
        Check.due("the sixth", x.event(10, 3), 6);
    }

    private static void fiveOfAttributesAreWritten() {
        LearnedCodes x = attributes(4);
        int before = x.written();
        x.attribute(0, 1, 5);
        x.attribute(0, 1, 5);
        x.attribute(0, 1, 6);
        x.attribute(0, 1, 6);
        x.attribute(0, 2, 7);
        x.attribute(0, 2, 7);
        x.attribute(0, 1, 7);
        Check.due("five for each name", Code.keptFrom(x, before),
                Code.join("0 0011 0101", "0 0000 100", "0 0011 0110", "0 0001 101",
                        "1 01 1 0001 0010 0011 0111", "00 0000", "01 0001 110"));
        Reads.whole("read", x, 1 + 4 + 7 + 1, "10 00");
    }

    private static void fiveAreRead() {
        Reads.whole("the last of five", texts(5), 10, "00 0000 100", "01");
        Reads.wrong("place 5 of five", texts(5), "00 0000 101");
        Reads.wrong("place 5, when a sixth came", texts(6), "00 0000 101");
        Reads.wrong("place 5, when the fifth came again", texts(5), "00 0011 0101",
                "00 0000 101");
        Reads.whole("the fourth came again and is the fifth", texts(4), 10, "00 0011 0100",
                "00 0000 100", "01");
        Reads.whole("the sixth of all", texts(6), 11, "00 0001 101", "01");
        Reads.wrong("place 6 of all six", texts(6), "00 0001 110");
    }

    private static void twentyAreWritten() {
        LearnedCodes x = attributes(20);
        int before = x.written();
        x.attribute(0, 6, 20);
        x.attribute(0, 6, 1);
        x.attribute(0, 6, 21);
        x.attribute(0, 7, 21);
        x.attribute(0, 7, 20);
        Check.due("the twentieth comes in, the 21st does not", Code.keptFrom(x, before),
                Code.join("100 01 1 0001 0110 0001 10011", "000 0001 00000",
                        "000 0011 1101 0010", "101 01 1 0001 0111 0011 1101 0010",
                        "000 0001 10011"));
        Reads.whole("read", x, 1 + 20 + 5 + 1, "110 00");
        LearnedCodes y = attributes(19);
        before = y.written();
        y.attribute(0, 6, 20);
        y.attribute(0, 7, 20);
        Check.due("the twentieth of another name", Code.keptFrom(y, before),
                Code.join("100 01 1 0001 0110 0011 1100 0010",
                        "101 01 1 0001 0111 0001 10011"));
    }

    private static void twentyAreRead() {
        String sixth = "100 01 1 0001 0110";
        LearnedCodes x = attributes(20);
        Reads.whole("the last of twenty", x, 23, sixth, "0001 10011", "101 00");
        Check.due("the twentieth", Code.event(x, 21), "2 0 6 20");
        Reads.wrong("place 20 of twenty", attributes(20), sixth, "0001 10100");
        Reads.wrong("place 31 of twenty", attributes(20), sixth, "0001 11111");
        Reads.wrong("place 20, when a 21st came", attributes(20), sixth, "0011 1101 0010",
                "000 0001 10100");
        Reads.wrong("place 20, when one came again", attributes(20), sixth, "0011 0001",
                "000 0001 10100");
        Reads.whole("one that came again is the twentieth", attributes(19), 23, sixth,
                "0011 0001", "000 0001 10011", "101 00");
        Reads.wrong("place 19 of nineteen", attributes(19), sixth, "0001 10011");
    }

    private static void ofTheNameFirst() {
        LearnedCodes x = new LearnedCodes();
        x.open(0, 1);
        x.attribute(0, 2, 1);
        x.attribute(0, 1, 2);
        x.text(2);
        Check.due("of both, the name's is told", Code.kept(x),
                Code.join(OPEN_A, "01 1 0001 0010 0011 0001", "1 01 1 0000 0 0011 0010",
                        "10 11 0000"));
        Reads.wrong("the name has none", new LearnedCodes(), OPEN_A,
                "01 1 0001 0010 0011 0001", "1 11 0000");
        Reads.wrong("no name has one", new LearnedCodes(), OPEN_A, "11 0000");
    }

    private static void amongAllNext() {
        LearnedCodes x = new LearnedCodes();
        x.open(0, 1);
        x.attribute(0, 2, 1);
        x.attribute(0, 2, 2);
        x.text(2);
        x.text(2);
        Check.due("it does not come into the name's", Code.kept(x),
                Code.join(OPEN_A, "01 1 0001 0010 0011 0001", "0 0011 0010", "1 11 0001 1",
                        "1 1 0001 1"));
        Reads.whole("read", x, 6, "01");
        Reads.wrong("the name has none", new LearnedCodes(), OPEN_A,
                "01 1 0001 0010 0011 0001", "1 11 0001", "1 1 0000");
        Reads.wrong("there is none", new LearnedCodes(), OPEN_A, "11 0001");
    }

    private static void lettersLast() {
        LearnedCodes x = new LearnedCodes();
        x.open(0, 1);
        x.text(Code.text("aaaaa"));
        x.text(Code.text("aaaa"));
        Check.due("5 and 2, 4 and 2", Code.kept(x), Code.join(OPEN_A,
                "11 0111 0001 0001 0001 0001 0001", "1 1 0110 0001 0001 0001 0001"));
        Reads.whole("read", x, 4, "01");
        Reads.wrong("6 letters and 2", new LearnedCodes(), OPEN_A, "11 1000 0001");
        Reads.whole("no letters and 2", new LearnedCodes(), 3, OPEN_A, "11 0010", "0");
    }

    private static void emptyComesIntoNone() {
        LearnedCodes x = content();
        x.text(0);
        x.text(1);
        x.text(1);
        x.text(0);
        Check.due("each time by no letters", Code.kept(x), Code.join(OPEN_A, "11 0010",
                "1 1 0010", "00 0010", "00 0011 0001", "00 0000", "00 0010"));
        Reads.whole("read", x, 8, "01");
        Reads.wrong("not into the name's", content(), "00 0000");
        Reads.wrong("not into that of all", content(), "00 0001");
        LearnedCodes y = attributes(19);
        y.attribute(0, 6, 0);
        y.attribute(0, 6, 20);
        int before = y.written();
        y.attribute(0, 7, 20);
        Check.due("twenty others go in", Code.keptFrom(y, before),
                Code.join("101 01 1 0001 0111 0001 10011"));
    }

    private static void fullOfTheName() {
        LearnedCodes x = texts(5);
        int before = x.written();
        for (int value = 6; value <= 20; value++) {
            x.text(value);
        }
        x.text(20);
        Check.due("it comes into that of all", Code.keptFrom(x, x.written() - 11),
                Code.join("00 0001 10011"));
        Check.due("each was told by its letter", x.written() - before,
                2 * (2 + 4 + 4) + 13 * (2 + 4 + 8) + 11);
        x.text(5);
        Check.due("and the five stay", Code.keptFrom(x, x.written() - 9),
                Code.join("00 0000 100"));
    }

    private static void fullOfAll() {
        LearnedCodes x = attributes(20);
        x.attribute(0, 6, 0);
        int before = x.written();
        for (int value = 21; value <= 25; value++) {
            x.attribute(0, 6, value);
        }
        x.attribute(0, 6, 25);
        x.attribute(0, 6, 21);
        Check.due("it comes into the name's", Code.keptFrom(x, before),
                Code.join("000 0011 1101 0010", "000 0011 1110 0010", "000 0011 1111 0010",
                        "000 0011 1000 0011", "000 0011 1001 0011", "000 0000 100",
                        "000 0000 000"));
        Reads.whole("read", x, 1 + 20 + 1 + 7 + 1, "101 00");
        Check.due("the fifth", Code.event(x, 27), "2 0 6 25");
    }

    private static void fullBoth() {
        LearnedCodes x = attributes(20);
        int before = x.written();
        x.attribute(0, 1, 21);
        x.attribute(0, 1, 21);
        x.attribute(0, 1, 5);
        x.attribute(0, 1, 20);
        Check.due("it is told by its letters each time", Code.keptFrom(x, before),
                Code.join("011 0011 1101 0010", "011 0011 1101 0010", "011 0000 100",
                        "011 0001 10011"));
        Reads.whole("read", x, 1 + 20 + 4 + 1, "100 00");
        Check.due("the last", Code.event(x, 24), "2 0 1 20");
    }
}
