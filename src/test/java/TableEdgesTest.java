/** The edges of the tables, of the Terms and of promises 2, 3 and 13. */
public final class TableEdgesTest {
    private static final String OPEN_A = "1 0001 0001";

    public static void main(String[] args) {
        Check.sentence("Terms",
                "TABLES, in the order in which things came, for each document anew.",
                TableEdgesTest::anew);
        Check.sentence("Terms, when they were full", "for each document anew",
                TableEdgesTest::fullAnew);
        Check.sentence("Terms", "SPACES (at first the empty one,",
                TableEdgesTest::emptySpaceIsThere);
        Check.sentence("Terms", "SPACES (at first the empty one, at most 6)",
                TableEdgesTest::sixSpacesAreRead);
        Check.sentence("Promise 2, spaces",
                "a table of spaces, local parts or names is full and would get one more",
                TableEdgesTest::openOfSeventhSpace);
        Check.sentence("Promise 3, spaces", "UnsupportedOperationException as for open",
                TableEdgesTest::attributeOfSeventhSpace);
        Check.sentence("Terms",
                "one that is there is its place and 1 more, of one more than there are; "
                + "another one is a 0 of as many, and then the number of its letters, and these.",
                TableEdgesTest::howSpacesAreTold);
        Check.sentence("Terms",
                "one that is there is the number 0 and its place of those that there are; "
                + "another one is the number of its letters, and these.",
                TableEdgesTest::howLocalsAreTold);
        Check.sentence("Terms, spaces",
                "What is told by letters comes into its table, even if it is there already",
                TableEdgesTest::spaceToldAgain);
        Check.sentence("Terms, local parts",
                "What is told by letters comes into its table, even if it is there already",
                TableEdgesTest::localToldAgain);
        Check.sentence("Terms, values",
                "What is told by letters comes into its table, even if it is there already",
                TableEdgesTest::valueToldAgain);
        Check.sentence("Terms", "what is there is told by its first place.",
                TableEdgesTest::firstPlace);
        Check.sentence("Terms", "LOCAL parts, for each place of the spaces",
                TableEdgesTest::eachPlace);
        Check.sentence("Terms", "for each place of the spaces (at most 10)",
                TableEdgesTest::tenLocalsAreRead);
        Check.sentence("Promise 2, local parts",
                "a table of spaces, local parts or names is full and would get one more",
                TableEdgesTest::openOfEleventhLocal);
        Check.sentence("Promise 3, local parts", "UnsupportedOperationException as for open",
                TableEdgesTest::attributeOfEleventhLocal);
        Check.sentence("Terms", "NAMES are pairs of a space and a local part, as texts, that came",
                TableEdgesTest::namesAreTexts);
        Check.sentence("Terms", "(at most 20 in all)", TableEdgesTest::twentyNamesAreRead);
        Check.sentence("Terms, names of refused calls", "as texts, that came",
                TableEdgesTest::refusedNamesDidNotCome);
        Check.sentence("Promise 2, names",
                "a table of spaces, local parts or names is full and would get one more",
                TableEdgesTest::openOfName21);
        Check.sentence("Promise 3, names", "UnsupportedOperationException as for open",
                TableEdgesTest::attributeOfName21);
        Check.end();
    }

    private static LearnedCodes root() {
        LearnedCodes x = new LearnedCodes();
        x.open(0, 1);
        return x;
    }

    private static void anew() {
        LearnedCodes x = new LearnedCodes();
        String bits = Code.join("0 0001 0011 0001 0001", "01 10 0001 0010 0011 0101", "1 00");
        for (int i = 0; i < 3; i++) {
            x.open(3, 1);
            x.attribute(3, 2, 5);
            x.close();
            Check.due("written", Code.kept(x), bits);
            Check.due("read", Check.outcome(() -> x.read()), 3);
            Check.due("read again", Check.outcome(() -> x.read()), 3);
            Check.due("again", x.again(), bits.length());
            x.clear();
        }
    }

    /** Twenty names, with spaces, local parts and values that are none of the others'. */
    private static void writeOthers(LearnedCodes x) {
        x.open(4, 10);
        for (int i = 1; i < 20; i++) {
            x.attribute(4 + i / 9, 10 + i % 9, 7 + i);
        }
        Check.refused("the 21st name", Refused.FULL, () -> x.attribute(4, 9, 0));
        Check.due("close", x.close(), 0);
    }

    private static void fullAnew() {
        LearnedCodes fresh = new LearnedCodes();
        writeOthers(fresh);
        String bits = Code.keptFrom(fresh, fresh.written() - 100);
        LearnedCodes x = names(20);
        x.close();
        x.keep();
        Check.due("twenty names", Check.outcome(() -> x.read()), 21);
        x.clear();
        writeOthers(x);
        Check.due("other names", x.written(), fresh.written());
        Check.due("their bits", Code.keptFrom(x, x.written() - 100), bits);
        Check.due("read", Check.outcome(() -> x.read()), 21);
        Check.due("taken", x.taken(), fresh.written());
        for (int i = 1; i < 20; i++) {
            Check.due("event " + i, Code.event(x, i),
                    "2 " + (4 + i / 9) + " " + (10 + i % 9) + " " + (7 + i));
        }
        Check.due("again", Check.outcome(() -> x.again()), fresh.written());
        Check.due("their bits", Code.keptFrom(x, x.written() - 20), bits.substring(80));
    }

    private static void emptySpaceIsThere() {
        LearnedCodes x = root();
        Check.due("the empty one by its place", Code.kept(x), Code.join(OPEN_A));
        LearnedCodes y = new LearnedCodes();
        y.open(1, 1);
        Check.due("another one by its letters", Code.kept(y),
                Code.join("0 0001 0001", "0001 0001"));
        y.attribute(0, 1, 0);
        y.attribute(1, 2, 0);
        Check.due("the empty one is the first, the other the second", Code.keptFrom(y, 17),
                Code.join("01 01 0001 0001 0010", "1 01 10 0001 0010 0010"));
        Reads.whole("the empty one", x, 2, "00");
        Reads.whole("both", y, 4, "10 00");
    }

    /** So many spaces, the empty one among them, by attributes with local part a. */
    private static LearnedCodes spaces(int count) {
        LearnedCodes x = root();
        for (int space = 1; space < count; space++) {
            x.attribute(space, 1, 0);
        }
        return x;
    }

    private static void sixSpacesAreRead() {
        Reads.whole("the sixth", spaces(5), 7, "100 01 000 0001 0101 0001 0001 0010", "101 00");
        Reads.wrong("the seventh", spaces(6), "101 01 000 0001 0110");
        Reads.wrong("the seventh is opened", spaces(6), "101 10 000 0001 0110");
        Reads.whole("the last of six", spaces(6), 8, "101 01 110 0001 0010 0010", "110 00");
        Reads.whole("the first of six", spaces(6), 8, "101 01 001 0001 0010 0010", "110 00");
    }

    private static void openOfSeventhSpace() {
        LearnedCodes x = root();
        for (int space = 1; space <= 5; space++) {
            x.open(space, 1);
            x.close();
        }
        int before = x.written();
        Check.refused("open", Refused.FULL, () -> x.open(6, 1));
        Check.due("nothing is written", x.written(), before);
        x.open(5, 2);
        Check.due("six are there", Code.keptFrom(x, before), Code.join("101 0 110 0001 0010"));
        Check.refused("open in TAG", Refused.FULL, () -> x.open(6, 1));
        x.attribute(5, 2, 0);
        Check.due("no element came", x.close(), 1);
        Refused.leavesAll("open", Refused.FULL, () -> spaces(6), y -> y.open(6, 1));
        Refused.leavesAll("open of a local part that is new", Refused.FULL, () -> spaces(6),
                y -> y.open(6, 2));
    }

    private static void attributeOfSeventhSpace() {
        LearnedCodes x = spaces(6);
        int before = x.written();
        Check.refused("attribute", Refused.FULL, () -> x.attribute(6, 1, 1));
        Check.due("nothing is written", x.written(), before);
        x.attribute(5, 2, 1);
        Check.due("six are there, and no value came", Code.keptFrom(x, before),
                Code.join("101 01 110 0001 0010 0011 0001"));
        Refused.leavesAll("attribute", Refused.FULL, () -> spaces(6), y -> y.attribute(6, 1, 1));
        Check.due("the sixth goes", spaces(6).written(), spaces(5).written() + 3 + 2 + 3 + 20);
    }

    private static void howSpacesAreTold() {
        LearnedCodes x = spaces(3);
        int before = x.written();
        x.attribute(0, 2, 0);
        x.attribute(2, 2, 0);
        x.attribute(Code.text("aaaaa"), 1, 0);
        Check.due("the first, the last and a new one of five letters", Code.keptFrom(x, before),
                Code.join("10 01 01 0001 0010 0010", "11 01 11 0001 0010 0010",
                        "100 01 00 0101 0001 0001 0001 0001 0001 0001 0001 0010"));
        Reads.whole("read", x, 7, "101 00");
        Check.due("the first", Code.event(x, 3), "2 0 2 0");
        Check.due("the last", Code.event(x, 4), "2 2 2 0");
        Check.due("the new one", Code.event(x, 5), "2 " + Code.text("aaaaa") + " 1 0");
        LearnedCodes y = spaces(1);
        Reads.whole("one of no letters", y, 3, "01 0 0000 0001 0010 0010", "1 00");
        Check.due("the empty one", Code.event(y, 1), "2 0 2 0");
    }

    private static void howLocalsAreTold() {
        LearnedCodes x = locals(0, 3);
        int before = x.written();
        x.open(0, 1);
        x.open(0, 3);
        x.open(0, Code.text("aaaaa"));
        Check.due("the first, the last and a new one of five letters", Code.keptFrom(x, before),
                Code.join("10 10 1 0000 00", "11 10 1 0000 10",
                        "10 1 0101 0001 0001 0001 0001 0001"));
        Reads.whole("read", x, 10, "00", "0", "0", "0");
        Check.due("the first", Code.event(x, 3), "1 0 1 0");
        Check.due("the last", Code.event(x, 4), "1 0 3 0");
        Check.due("the new one", Code.event(x, 5), "1 0 " + Code.text("aaaaa") + " 0");
    }

    private static void spaceToldAgain() {
        String twice = "0 0001 0001 0001 0001" + "01 00 0001 0001 0001 0010 0010";
        String three = "1 01 11 0001 0011 0010";
        LearnedCodes x = Code.streamOf(twice, three, "10 00");
        Check.due("the third place", Check.outcome(() -> x.read()), 4);
        Check.due("is the same space", Code.event(x, 2), "2 1 3 0");
        LearnedCodes empty = Code.streamOf("0 0000 0001 0001", "01 10 0000 0010", "1 00");
        Check.due("the empty one at the second place", Check.outcome(() -> empty.read()), 3);
        Check.due("is the same name", Code.event(empty, 1), "2 0 1 0");
        Reads.wrong("one more when six are there", spaces(6), "101 01 000 0001 0001");
        Reads.wrong("the empty one when six are there", spaces(6), "101 01 000 0000");
        Reads.whole("the sixth is there already", spaces(5), 7,
                "100 01 000 0001 0001 0001 0010 0010", "101 00");
    }

    private static void localToldAgain() {
        LearnedCodes x = Code.streamOf(OPEN_A, "01 1 0001 0001 0010", "1 01 1 0001 0010 0010",
                "10 01 1 0000 10 0010", "00 0010", "10 00");
        Check.due("the third place of three", Check.outcome(() -> x.read()), 6);
        Check.due("third", Code.event(x, 3), "2 0 2 0");
        Check.due("the code of the third", Code.event(x, 4), "2 0 2 0");
        LearnedCodes y = Code.streamOf(OPEN_A, "01 1 0001 0001 0010", "1 01 1 0000 1 0010",
                "1 00");
        Check.due("the second place of two", Check.outcome(() -> y.read()), 4);
        Check.due("is the same local part", Code.event(y, 2), "2 0 1 0");
        Reads.wrong("one more when ten are there", locals(0, 10), "1001 01 1 0001 0001");
    }

    private static void valueToldAgain() {
        LearnedCodes x = Code.streamOf(OPEN_A, "11 0011 0001", "1 1 0011 0001", "00 0011 0010",
                "00 0000 10", "00 0001 10", "00 0000 01", "01");
        Check.due("three values", Check.outcome(() -> x.read()), 8);
        Check.due("the third of the name", Code.event(x, 4), "3 0 0 2");
        Check.due("the third of all", Code.event(x, 5), "3 0 0 2");
        Check.due("the second of the name", Code.event(x, 6), "3 0 0 1");
    }

    private static void firstPlace() {
        LearnedCodes x = Code.streamOf("0 0001 0001 0001 0001", "01 00 0001 0001 0001 0001 0010",
                "1 00");
        Check.due("a space is told again", Check.outcome(() -> x.read()), 3);
        x.again();
        Check.due("but written by its first place", Code.kept(x),
                Code.join("0 0001 0001 0001 0001", "01 10 0000 0010", "1 00"));
        LearnedCodes y = Code.streamOf(OPEN_A, "01 1 0001 0001 0011 0001", "0 0011 0001",
                "0 0000 1", "1 00");
        Check.due("a local part and a value are told again", Check.outcome(() -> y.read()), 5);
        y.again();
        Check.due("but written by their first places", Code.kept(y),
                Code.join(OPEN_A, "01 1 0000 0011 0001", "0 0000", "0 0000", "1 00"));
    }

    /** So many local parts of the space, a of the root element among them. */
    private static LearnedCodes locals(int space, int count) {
        LearnedCodes x = new LearnedCodes();
        x.open(space, 1);
        for (int local = 2; local <= count; local++) {
            x.attribute(space, local, 0);
        }
        return x;
    }

    private static void eachPlace() {
        LearnedCodes x = locals(0, 10);
        int before = x.written();
        x.attribute(1, 11, 0);
        x.attribute(1, 1, 0);
        Check.due("another space has a table of its own", Code.keptFrom(x, before),
                Code.join("1001 01 0 0001 0001 0001 1011 0001 0010",
                        "1010 01 10 0001 0001 0010"));
        Check.refused("the first one is still full", Refused.FULL, () -> x.attribute(0, 11, 0));
        String secondPlace = "1001 01 0 0000 0001 1011 0001 0010";
        Reads.whole("the same space at another place, too", locals(0, 10), 12, secondPlace,
                "1010 00");
        Reads.wrong("which has none at first", locals(0, 10), "1001 01 0 0000 0000");
    }

    private static void tenLocalsAreRead() {
        for (int space = 0; space <= 1; space++) {
            String told = space == 0 ? "1" : "10";
            Reads.whole("the tenth", locals(space, 9), 11, "1000 01", told, "0001 1010 0001 0010",
                    "1001 00");
            Reads.wrong("the eleventh", locals(space, 10), "1001 01", told, "0001 1011 0001");
            Reads.wrong("the eleventh is opened", locals(space, 10), "1001 10", told,
                    "0001 1011 0001");
            Reads.whole("the tenth of ten", locals(space, 10), 12, "1001 01", told,
                    "0000 1001 0010", "1001 00");
        }
    }

    private static void openOfEleventhLocal() {
        LearnedCodes x = root();
        for (int local = 2; local <= 10; local++) {
            x.open(0, local);
            x.close();
        }
        int before = x.written();
        Check.refused("open", Refused.FULL, () -> x.open(0, 11));
        Check.due("nothing is written", x.written(), before);
        x.open(0, 1);
        Check.due("ten are there", Code.keptFrom(x, before), Code.join("1001 0 1 0000 0000"));
        Refused.leavesAll("open", Refused.FULL, () -> locals(0, 10), y -> y.open(0, 11));
        Refused.leavesAll("open in a space", Refused.FULL, () -> locals(2, 10),
                y -> y.open(2, 11));
        LearnedCodes z = locals(0, 9);
        z.open(0, 10);
        Check.due("the tenth goes", z.close(), 1);
    }

    private static void attributeOfEleventhLocal() {
        LearnedCodes x = locals(0, 10);
        int before = x.written();
        Check.refused("attribute", Refused.FULL, () -> x.attribute(0, 11, 1));
        Check.due("nothing is written", x.written(), before);
        x.attribute(0, 1, 1);
        Check.due("ten are there, and no value came", Code.keptFrom(x, before),
                Code.join("1001 01 1 0000 0000 0011 0001"));
        Refused.leavesAll("attribute", Refused.FULL, () -> locals(0, 10),
                y -> y.attribute(0, 11, 1));
        Refused.leavesAll("attribute in a space", Refused.FULL, () -> locals(2, 10),
                y -> y.attribute(2, 11, 1));
        Check.due("the tenth goes", locals(0, 10).written(),
                locals(0, 9).written() + 4 + 2 + 1 + 12 + 4);
    }

    /** So many names, nine of each space. */
    private static LearnedCodes names(int count) {
        LearnedCodes x = root();
        for (int i = 1; i < count; i++) {
            x.attribute(i / 9, i % 9 + 1, 0);
        }
        return x;
    }

    private static void namesAreTexts() {
        // space a is at two places, with the local part b at each
        String two = "0 0001 0001 0001 0001" + "01 10 0001 0010 0011 0011"
                + "1 01 00 0001 0001 0001 0010 0000";
        LearnedCodes x = Code.streamOf(two, "0 0000", "1 00");
        Check.due("one name, with its code and its value", Check.outcome(() -> x.read()), 5);
        Check.due("of the first place", Code.event(x, 1), "2 1 2 3");
        Check.due("of the second place", Code.event(x, 2), "2 1 2 3");
        Check.due("learned once", Code.event(x, 3), "2 1 2 3");
        Reads.whole("a name that came is not the 21st", names(20), 22,
                "1100 01 00 0001 0001 0001 0001 0010", "1100 00");
        Reads.wrong("a pair that did not come is", names(20),
                "1100 01 00 0001 0001 0001 1010 0001");
        LearnedCodes y = new LearnedCodes();
        y.open(1, 2);
        y.attribute(2, 1, 3);
        y.attribute(1, 1, 3);
        Check.due("each pair is a name", y.written(),
                17 + (2 + 2 + 16 + 8) + (1 + 2 + 2 + 8 + 4));
    }

    private static void twentyNamesAreRead() {
        Reads.whole("the twentieth", names(19), 21, "1100 01 11 0001 0010 0010", "1100 00");
        Reads.whole("the twentieth is opened", names(19), 22, "1100 10 11 0001 0010", "00", "0");
        Reads.wrong("the 21st", names(20), "1100 01 11 0001 0011");
        Reads.wrong("the 21st is opened", names(20), "1100 10 11 0001 0011");
        Reads.wrong("the 21st in another space", names(20), "1100 01 01 0001 1010 0001");
        Reads.wrong("the 21st in a new space", names(20), "1100 01 00 0001 0011 0001 0001");
    }

    private static void refusedNamesDidNotCome() {
        LearnedCodes x = names(19);
        Check.refused("no value", Refused.ARGUMENT, () -> x.attribute(0, 10, 27));
        Check.refused("no space", Refused.ARGUMENT, () -> x.open(27, 10));
        for (int i = 2; i <= 8; i++) {
            x.open(0, 1);
        }
        Check.refused("a ninth element", Refused.FULL, () -> x.open(0, 10));
        x.text(0);
        Check.refused("an attribute behind text", Refused.STATE, () -> x.attribute(0, 10, 1));
        x.close();
        x.open(2, 2);
        Check.due("the twentieth goes", x.close(), 7);
        Check.refused("the 21st does not", Refused.FULL, () -> x.open(2, 3));
    }

    private static void openOfName21() {
        LearnedCodes x = names(19);
        x.open(2, 2);
        Check.due("the twentieth goes", x.close(), 1);
        Check.refused("the 21st in CONTENT", Refused.FULL, () -> x.open(2, 3));
        int before = x.written();
        Check.refused("in another space", Refused.FULL, () -> x.open(0, 10));
        Check.refused("in a new space", Refused.FULL, () -> x.open(3, 1));
        Check.due("nothing is written", x.written(), before);
        x.open(2, 1);
        Check.due("three spaces and two local parts are there", Code.keptFrom(x, before),
                Code.join("1 0 11 0000 0"));
        Refused.leavesAll("open", Refused.FULL, () -> names(20), y -> y.open(2, 3));
        Refused.leavesAll("open in a new space", Refused.FULL, () -> names(20),
                y -> y.open(3, 1));
    }

    private static void attributeOfName21() {
        LearnedCodes x = names(20);
        int before = x.written();
        Check.refused("attribute", Refused.FULL, () -> x.attribute(2, 3, 1));
        Check.refused("in another space", Refused.FULL, () -> x.attribute(0, 10, 1));
        Check.refused("in a new space", Refused.FULL, () -> x.attribute(3, 1, 1));
        Check.due("nothing is written", x.written(), before);
        x.attribute(2, 1, 1);
        Check.due("three spaces and two local parts are there, and no value",
                Code.keptFrom(x, before), Code.join("1100 01 11 0000 0 0011 0001"));
        Refused.leavesAll("attribute", Refused.FULL, () -> names(20),
                y -> y.attribute(2, 3, 1));
        Refused.leavesAll("attribute in a new space", Refused.FULL, () -> names(20),
                y -> y.attribute(3, 1, 1));
    }
}
