/** The edges of places and numbers, of the Terms, when they are written and when they are read. */
public final class BitEdgesTest {
    /** How many bits a place of 0, 1, 2 .. 20 has. */
    private static final int[] WIDTHS = {0, 0, 1, 2, 2, 3, 3, 3, 3, 4, 4, 4, 4, 4, 4, 4, 4,
        5, 5, 5, 5};

    private static final String OPEN_A = "1 0001 0001";

    public static void main(String[] args) {
        Check.sentence("Terms, in TAG", "n being the least with 2^n not below m",
                BitEdgesTest::placesInTag);
        Check.sentence("Terms, in CONTENT", "n being the least with 2^n not below m",
                BitEdgesTest::placesInContent);
        Check.sentence("Terms, spaces", "n being the least with 2^n not below m",
                BitEdgesTest::placesOfSpaces);
        Check.sentence("Terms, local parts", "n being the least with 2^n not below m",
                BitEdgesTest::placesOfLocals);
        Check.sentence("Terms, values of a name", "n being the least with 2^n not below m",
                BitEdgesTest::placesOfValues);
        Check.sentence("Terms, all values", "n being the least with 2^n not below m",
                BitEdgesTest::placesOfAllValues);
        Check.sentence("Terms", "the highest one first", BitEdgesTest::highestFirst);
        Check.sentence("Terms", "(0 bits for m = 1)", BitEdgesTest::placeOfOne);
        Check.sentence("Terms",
                "A NUMBER is its groups of three bits, the lowest group first, each with a 1 "
                + "in front if another group follows, else a 0", BitEdgesTest::groups);
        Check.sentence("Terms", "(at least one group;", BitEdgesTest::leastGroups);
        Check.sentence("Terms", "a written one has no more than are needed,",
                BitEdgesTest::neededGroups);
        Check.sentence("Terms", "one that is read may have up to four).", BitEdgesTest::fourGroups);
        Check.sentence("Terms", "a number has more than four groups (told behind the fourth)",
                BitEdgesTest::fiveGroups);
        Check.end();
    }

    /** What is written is read to its end, once it is closed. */
    private static void readsBack(LearnedCodes x, int events) {
        while (x.close() > 0) {
            events++;
        }
        int bits = x.keep();
        Check.due("read", Check.outcome(() -> x.read()), events + 1);
        Check.due("taken", x.taken(), bits);
    }

    private static String lowest(int width) {
        return "0".repeat(width);
    }

    private static void placesInTag() {
        LearnedCodes x = new LearnedCodes();
        x.open(1, 1);
        for (int learned = 0; learned <= 12; learned++) {
            int before = x.written();
            x.attribute(learned % 2, 1 + learned / 2 + learned % 2, 0);
            Check.due("code with " + learned + " learned", x.written() - before,
                    WIDTHS[learned + 1] + 2 + 2 + 4 + 4 + 4);
            before = x.written();
            x.attribute(0, 1, 0);
            Check.due("a learned code of " + (learned + 1), x.written() - before,
                    WIDTHS[Math.min(learned + 2, 13)] + 4);
        }
        readsBack(x, 1 + 13 * 2);
    }

    private static void placesInContent() {
        LearnedCodes x = new LearnedCodes();
        x.open(1, 1);
        x.text(0);
        for (int learned = 0; learned <= 12; learned++) {
            int before = x.written();
            x.open(learned % 2, 1 + learned / 2 + learned % 2);
            Check.due("code with " + learned + " learned", x.written() - before,
                    WIDTHS[learned + 2] + 1 + 2 + 4 + 4);
            x.close();
            before = x.written();
            x.open(0, 1);
            Check.due("a learned code of " + (learned + 1), x.written() - before,
                    WIDTHS[Math.min(learned + 3, 14)]);
            x.close();
        }
        int before = x.written();
        readsBack(x, 2 + 13 * 4);
        Check.due("CLOSE of 14", x.written() - before, 4);
    }

    private static void placesOfSpaces() {
        LearnedCodes x = new LearnedCodes();
        x.open(0, 1);
        for (int spaces = 1; spaces <= 5; spaces++) {
            int before = x.written();
            x.attribute(spaces, 1, 0);
            Check.due("a new space behind " + spaces, x.written() - before,
                    WIDTHS[spaces] + 2 + WIDTHS[spaces + 1] + 8 + 8 + 4);
        }
        int before = x.written();
        x.attribute(5, 2, 0);
        Check.due("the sixth of six", Code.keptFrom(x, before),
                Code.join("101 01", "110", "0001 0010 0010"));
        readsBack(x, 7);
    }

    private static void placesOfLocals() {
        for (int locals = 1; locals <= 10; locals++) {
            LearnedCodes x = new LearnedCodes();
            x.open(0, 1);
            for (int local = 2; local <= locals; local++) {
                x.attribute(0, local, 0);
            }
            int before = x.written();
            x.attribute(0, 1, 0);
            Check.due("the first of " + locals, Code.keptFrom(x, before), Code.join(
                    Code.place(locals - 1, locals), "01 1 0000", lowest(WIDTHS[locals]), "0010"));
            readsBack(x, 1 + locals);
        }
    }

    private static void placesOfValues() {
        LearnedCodes x = new LearnedCodes();
        x.open(0, 1);
        x.text(0);
        x.text(0);
        for (int values = 1; values <= 5; values++) {
            x.text(values);
            int before = x.written();
            x.text(1);
            Check.due("the first of " + values, Code.keptFrom(x, before),
                    Code.join("00 0000", lowest(WIDTHS[values])));
        }
        readsBack(x, 3 + 5 * 2);
    }

    private static void placesOfAllValues() {
        LearnedCodes x = new LearnedCodes();
        x.open(0, 5);
        x.attribute(0, 6, 0);
        for (int values = 1; values <= 20; values++) {
            x.attribute(0, 1 + (values - 1) / 5, values);
            int before = x.written();
            x.attribute(0, 6, 1);
            int codes = 1 + 1 + (values - 1) / 5;
            Check.due("the first of all " + values, x.written() - before,
                    WIDTHS[codes + 1] + 4 + WIDTHS[values]);
        }
        readsBack(x, 2 + 20 * 2);
    }

    private static void highestFirst() {
        LearnedCodes x = new LearnedCodes();
        x.open(0, 1);
        x.text(0);
        x.text(0);
        for (int value = 1; value <= 5; value++) {
            x.text(value);
        }
        int before = x.written();
        for (int value = 1; value <= 5; value++) {
            x.text(value);
        }
        Check.due("places of 5", Code.keptFrom(x, before), Code.join("00 0000 000", "00 0000 001",
                "00 0000 010", "00 0000 011", "00 0000 100"));
        x.close();
        x.keep();
        x.read();
        Check.due("place 1 is read", x.event(3 + 5 + 1, 3), 2);
        Check.due("place 3 is read", x.event(3 + 5 + 3, 3), 4);
        Check.due("place 4 is read", x.event(3 + 5 + 4, 3), 5);
    }

    private static void placeOfOne() {
        LearnedCodes x = new LearnedCodes();
        x.open(0, 1);
        x.attribute(0, 1, 1);
        x.text(1);
        x.open(0, 2);
        x.text(1);
        x.close();
        Check.due("the only code, local part and value", Code.kept(x), Code.join(OPEN_A,
                "01 1 0000 0011 0001", "1 11 0000", "1 0 1 0001 0010", "11 0001", "0"));
        LearnedCodes two = new LearnedCodes();
        two.open(0, 1);
        two.attribute(0, 1, 1);
        two.attribute(0, 1, 2);
        two.attribute(0, 1, 2);
        Check.due("one of two has a bit", Code.kept(two), Code.join(OPEN_A,
                "01 1 0000 0011 0001", "0 0011 0010", "0 0000 1"));
        readsBack(x, 6);
        readsBack(two, 4);
    }

    private static void groups() {
        String[] letters = {"0001", "0010", "0011", "0100", "0101", "0110", "0111",
            "10000001", "10010001", "10100001", "10110001", "11000001", "11010001", "11100001",
            "11110001", "10000010", "10010010", "10100010", "10110010", "11000010", "11010010",
            "11100010", "11110010", "10000011", "10010011", "10100011"};
        for (int letter = 1; letter <= 26; letter++) {
            LearnedCodes x = new LearnedCodes();
            x.open(0, letter);
            Check.due("letter " + letter, Code.kept(x), "10001" + letters[letter - 1]);
            readsBack(x, 1);
            Check.due("letter " + letter + " is read", x.event(0, 2), letter);
        }
    }

    private static void leastGroups() {
        LearnedCodes x = new LearnedCodes();
        x.open(0, 1);
        x.attribute(0, 1, 1);
        x.text(1);
        Check.due("the number 0 of a local part and of a value", Code.kept(x),
                Code.join(OPEN_A, "01 1 0000 0011 0001", "1 11 0000"));
        LearnedCodes empty = Code.streamOf("0");
        Check.refused("no group", Refused.ARGUMENT, () -> empty.read());
        Check.due("taken", empty.taken(), 1);
    }

    private static void neededGroups() {
        LearnedCodes x = new LearnedCodes();
        x.open(7, 8);
        Check.due("7 has one group, 8 two", Code.kept(x),
                Code.join("0 0001 0111", "0001 1000 0001"));
        x.clear();
        x.open(0, 1);
        x.text(Code.text("ggggg"));
        Check.due("5 letters and 2 more are one group", Code.kept(x),
                Code.join(OPEN_A, "11 0111", "0111 0111 0111 0111 0111"));
        LearnedCodes y = Code.streamOf("0 1000 0000 1001 1000 1000 0000 1111 0000", "00");
        y.read();
        Check.due("again has no more than are needed", y.again(), 11);
        Check.due("again", Code.kept(y), Code.join("1 0001 0111 00"));
    }

    private static void fourGroups() {
        String[] ones = {"0001", "1001 0000", "1001 1000 0000", "1001 1000 1000 0000"};
        for (String one : ones) {
            reads("letters of a local part", 2, "1", one, "0010", "00");
            reads("a letter", 2, "1 0001", one, "00");
            reads("letters of a space", 2, "0", one, "0010 0001 0001", "00");
            reads("a value of all", 4, OPEN_A, "01 1 0000 0011 0001", "1 11", one, "0");
            String zero = one.substring(0, 3) + "0" + one.substring(4);
            reads("letters of the empty space", 2, "0", zero, "0001 0001", "00");
            reads("a local part that is there", 3, OPEN_A, "01 1", zero, "0010", "1 00");
            reads("a value of the name", 4, OPEN_A, "01 1 0000 0011 0001", "1 11", zero, "0");
            String three = one.substring(0, 2) + "11" + one.substring(4);
            reads("letters of a value", 3, OPEN_A, "11", three, "0001 0");
        }
        reads("all four groups count", 2, "1 0001 1010 1011 1000 0000", "00");
    }

    private static void reads(String what, int events, String... parts) {
        LearnedCodes x = Code.streamOf(parts);
        Check.due(what, Check.outcome(() -> x.read()), events);
        Check.due(what + ": taken", x.taken(), Code.join(parts).length());
    }

    private static void fiveGroups() {
        String five = "1001 1000 1000 1000 0000";
        isWrongAtFourth("letters of a local part", "1", five, "0001 00");
        isWrongAtFourth("a letter", "1 0001", five, "00");
        isWrongAtFourth("letters of a space", "0", five, "0001 0001 0001 00");
        isWrongAtFourth("a value", OPEN_A + "11", "1011 1000 1000 1000 0000", "0001 0");
        isWrongAtFourth("0 letters of a space", "0", "1000 1000 1000 1000 0000",
                "0001 0001 00");
        isWrongAtFourth("the highest one", "1", "1111 1111 1111 1111 0111", "");
    }

    private static void isWrongAtFourth(String what, String before, String number,
            String behind) {
        int fourth = Code.join(before).length() + 16;
        LearnedCodes x = Code.streamOf(before, number, behind);
        Check.refused(what, Refused.ARGUMENT, () -> x.read());
        Check.due(what + ": taken", x.taken(), fourth);
        for (int missing : new int[] {0, 1, 3, 4}) {
            x.cut(fourth - missing);
            Check.refused(what + ", cut", Refused.ARGUMENT, () -> x.read());
            Check.due(what + ", cut: taken", x.taken(), fourth - missing);
        }
    }
}
