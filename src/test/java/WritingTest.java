/** Promises 1 to 7: what open, attribute, text and close write, and when they refuse. */
public final class WritingTest {
    private static final Class<IllegalArgumentException> ARGUMENT = IllegalArgumentException.class;
    private static final Class<IllegalStateException> STATE = IllegalStateException.class;
    private static final Class<UnsupportedOperationException> FULL =
            UnsupportedOperationException.class;

    public static void main(String[] args) {
        newObject();
        numbersOfLetters();
        learnedTag();
        learnedContent();
        codesInFront();
        twelveCodesInTag();
        twelveCodesInContent();
        values();
        fullValues();
        spacesAndLocals();
        wrongNames();
        wrongStates();
        fullSpaces();
        fullLocals();
        fullNames();
        eightElements();
        limitOfBits();
        clearing();
        Check.end();
    }

    private static void newObject() {
        LearnedCodes x = new LearnedCodes();
        Check.due("new: written", x.written(), 0);
        Check.due("new: taken", x.taken(), 0);
        Check.refused("new: bit", IndexOutOfBoundsException.class, () -> x.bit(0));
        Check.refused("new: event", IndexOutOfBoundsException.class, () -> x.event(0, 0));
        Check.refused("new: again", STATE, () -> x.again());
        Check.due("new: keep", x.keep(), 0);
    }

    private static void written(String what, LearnedCodes x, String... parts) {
        Check.due(what, Code.kept(x), Code.join(parts));
    }

    private static void numbersOfLetters() {
        LearnedCodes x = new LearnedCodes();
        x.open(Code.text("r"), Code.text("ghz"));
        written("letters", x, "0 0001 1010 0010", "0011 0111 1000 0001 1010 0011");
        x.clear();
        x.open(0, 14348906);
        written("zzzzz", x, "1 0101", "1010 0011 1010 0011 1010 0011 1010 0011 1010 0011");
    }

    private static void learnedTag() {
        LearnedCodes x = new LearnedCodes();
        x.open(0, 1);
        x.open(0, 1);
        Check.due("close inner", x.close(), 1);
        Check.due("close outer", x.close(), 0);
        written("a in a", x, "1 0001 0001", "10 1 0000", "1 00", "0");
        x.clear();
        x.open(0, 1);
        x.attribute(0, 1, 0);
        x.attribute(0, 1, 1);
        x.attribute(0, 2, 1);
        x.attribute(0, 1, 1);
        x.close();
        written("attributes", x, "1 0001 0001", "01 1 0000 0010", "0 0011 0001",
                "1 01 1 0001 0010 0001", "01 0000", "10 00");
    }

    private static void learnedContent() {
        LearnedCodes x = new LearnedCodes();
        x.open(0, 1);
        x.text(0);
        x.text(0);
        x.text(0);
        x.open(0, 2);
        x.close();
        x.open(0, 2);
        x.close();
        x.text(0);
        x.close();
        written("contents", x, "1 0001 0001", "11 0010", "1 1 0010", "00 0010",
                "10 0 1 0001 0010", "00", "00", "0", "01 0010", "10");
    }

    private static void codesInFront() {
        LearnedCodes x = new LearnedCodes();
        x.open(0, 1);
        x.attribute(0, 2, 0);
        x.attribute(0, 3, 0);
        x.attribute(0, 3, 0);
        x.attribute(0, 2, 0);
        x.open(0, 2);
        x.text(0);
        x.close();
        x.close();
        written("the newest in front", x, "1 0001 0001", "01 1 0001 0010 0010",
                "1 01 1 0001 0011 0010", "00 0010", "01 0010",
                "10 10 1 0000 01", "11 0010", "0", "0");
    }

    /** Names a .. m of the empty space and then of space a, so that no table is full. */
    private static int spaceOfMany(int i) {
        return i / 9;
    }

    private static int localOfMany(int i) {
        return i % 9 + 1;
    }

    private static void twelveCodesInTag() {
        LearnedCodes x = new LearnedCodes();
        x.open(0, 1);
        for (int i = 0; i < 12; i++) {
            x.attribute(spaceOfMany(i), localOfMany(i), 0);
        }
        int before = x.written();
        x.attribute(1, 4, 0);
        x.attribute(1, 4, 0);
        x.attribute(1, 3, 0);
        x.attribute(0, 1, 0);
        x.close();
        Check.due("13th code in TAG", Code.keptFrom(x, before),
                Code.join("1100 01 10 0001 0100 0010", "1100 01 10 0000 11 0010",
                        "0000 0010", "1011 0010", "1100 00"));
    }

    private static void twelveCodesInContent() {
        LearnedCodes x = new LearnedCodes();
        x.open(0, 1);
        x.text(0);
        for (int i = 0; i < 12; i++) {
            x.open(spaceOfMany(i), localOfMany(i));
            x.close();
        }
        int before = x.written();
        x.text(0);
        x.open(0, 2);
        x.close();
        x.open(1, 4);
        x.close();
        x.open(1, 3);
        x.close();
        x.close();
        Check.due("13th code in CONTENT", Code.keptFrom(x, before),
                Code.join("1101 1 0010", "1010", "0", "1101 0 10 0001 0100", "00",
                        "0000", "0", "1100"));
    }

    private static void values() {
        LearnedCodes x = new LearnedCodes();
        x.open(0, 1);
        x.attribute(0, 2, 1);
        x.attribute(0, 1, 2);
        x.text(1);
        x.text(2);
        x.text(1);
        x.text(0);
        x.text(Code.text("zb"));
        x.text(Code.text("zb"));
        x.close();
        written("values", x, "1 0001 0001", "01 1 0001 0010 0011 0001",
                "1 01 1 0000 0 0011 0010", "10 11 0001 0", "1 1 0000", "00 0001 0", "00 0010",
                "00 0100 1010 0011 0010", "00 0000 1", "01");
    }

    private static void fullValues() {
        LearnedCodes x = new LearnedCodes();
        x.open(0, 1);
        x.text(0);
        x.text(0);
        for (int name = 1; name <= 4; name++) {
            x.open(0, name);
            x.text(0);
            for (int value = 1; value <= 6; value++) {
                x.text(Code.text("" + (char) ('a' + name) + (char) ('a' + value)));
            }
            x.close();
        }
        int before = x.written();
        x.text(Code.text("bf"));
        x.text(Code.text("bg"));
        x.text(Code.text("de"));
        x.text(Code.text("ec"));
        x.text(Code.text("ed"));
        x.text(Code.text("eg"));
        x.text(Code.text("eg"));
        // codes of a: four OPENs and TEXT, which is the last one; among all are six that begin
        // with b, c and d each, and two that begin with e
        Check.due("full tables of values", Code.keptFrom(x, before),
                Code.join("100 0000 100", "100 0001 00101", "100 0001 01111",
                        "100 0001 10011", "100 0100 0101 0100", "100 0100 0101 0111",
                        "100 0100 0101 0111"));
    }

    private static void spacesAndLocals() {
        LearnedCodes x = new LearnedCodes();
        x.open(1, 1);
        x.attribute(2, 1, 0);
        x.attribute(1, 2, 0);
        x.attribute(0, 1, 0);
        x.open(2, 1);
        x.open(2, 2);
        x.open(2, 1);
        written("spaces and locals", x, "0 0001 0001 0001 0001",
                "01 00 0001 0010 0001 0001 0010", "1 01 10 0001 0010 0010",
                "10 01 01 0001 0001 0010", "11 10 11 0000", "10 11 0001 0010",
                "10 11 0000 0");
    }

    private static void wrongNames() {
        int[] noTexts = {-1, 27, 54, 27 * 27, 27 * 27 + 1, 14348907, 14348908, 15000000,
            Integer.MAX_VALUE, Integer.MIN_VALUE};
        LearnedCodes x = new LearnedCodes();
        for (int bad : noTexts) {
            Check.refused("open space " + bad, ARGUMENT, () -> x.open(bad, 1));
            Check.refused("open local " + bad, ARGUMENT, () -> x.open(1, bad));
        }
        Check.refused("open no local", ARGUMENT, () -> x.open(1, 0));
        x.open(0, 14348906);
        for (int bad : noTexts) {
            Check.refused("attribute space " + bad, ARGUMENT, () -> x.attribute(bad, 1, 1));
            Check.refused("attribute local " + bad, ARGUMENT, () -> x.attribute(1, bad, 1));
            Check.refused("attribute value " + bad, ARGUMENT, () -> x.attribute(1, 1, bad));
            Check.refused("text " + bad, ARGUMENT, () -> x.text(bad));
        }
        Check.refused("attribute no local", ARGUMENT, () -> x.attribute(1, 0, 1));
        Check.due("nothing of these is written", x.written(), 45);
        x.attribute(14348906, 26, 14348906);
        x.text(28);
        x.close();
        Check.refused("no name, and whole", ARGUMENT, () -> x.open(0, 0));
        Check.refused("no value, and whole", ARGUMENT, () -> x.text(27));
    }

    private static void wrongStates() {
        LearnedCodes x = new LearnedCodes();
        Check.refused("attribute before open", STATE, () -> x.attribute(0, 1, 1));
        Check.refused("text before open", STATE, () -> x.text(1));
        Check.refused("close before open", STATE, () -> x.close());
        x.open(0, 1);
        x.open(0, 2);
        x.close();
        Check.refused("attribute behind element", STATE, () -> x.attribute(0, 1, 1));
        x.open(0, 2);
        x.attribute(0, 1, 1);
        x.text(0);
        Check.refused("attribute behind text", STATE, () -> x.attribute(0, 1, 1));
        Check.due("close", x.close(), 1);
        Check.due("close", x.close(), 0);
        int before = x.written();
        Check.refused("open when whole", STATE, () -> x.open(0, 1));
        Check.refused("attribute when whole", STATE, () -> x.attribute(0, 1, 1));
        Check.refused("text when whole", STATE, () -> x.text(1));
        Check.refused("close when whole", STATE, () -> x.close());
        Check.due("nothing of these is written", x.written(), before);
    }

    private static void fullSpaces() {
        LearnedCodes x = new LearnedCodes();
        x.open(0, 1);
        for (int space = 1; space <= 5; space++) {
            x.attribute(space, 1, 0);
        }
        int before = x.written();
        Check.refused("attribute of the 7th space", FULL, () -> x.attribute(6, 1, 0));
        Check.refused("open of the 7th space", FULL, () -> x.open(6, 1));
        Check.due("nothing of these is written", x.written(), before);
        x.attribute(5, 2, 0);
        Check.due("place of 7", Code.keptFrom(x, before), Code.join("101 01 110",
                "0001 0010", "0010"));
    }

    private static void fullLocals() {
        LearnedCodes x = new LearnedCodes();
        x.open(0, 1);
        for (int local = 2; local <= 10; local++) {
            x.attribute(0, local, 0);
        }
        int before = x.written();
        Check.refused("attribute of the 11th local", FULL, () -> x.attribute(0, 11, 0));
        Check.refused("open of the 11th local", FULL, () -> x.open(0, 11));
        Check.due("nothing of these is written", x.written(), before);
        x.attribute(0, 1, 0);
        x.attribute(1, 11, 0);
        x.attribute(0, 10, 0);
        Check.due("place of 10", Code.keptFrom(x, before),
                Code.join("1001 01 1 0000 0000 0010",
                        "1010 01 0 0001 0001 0001 1011 0001 0010", "0010 0010"));
    }

    private static void fullNames() {
        LearnedCodes x = new LearnedCodes();
        x.open(0, 1);
        for (int i = 1; i < 20; i++) {
            x.attribute(spaceOfMany(i), localOfMany(i), 0);
        }
        int before = x.written();
        Check.refused("attribute of the 21st name", FULL, () -> x.attribute(1, 10, 0));
        Check.refused("21st name in a new space", FULL, () -> x.attribute(4, 1, 0));
        Check.refused("open of the 21st name", FULL, () -> x.open(0, 10));
        Check.refused("no element takes it", FULL, () -> x.open(3, 1));
        Check.due("nothing of these is written", x.written(), before);
        x.open(2, 2);
        x.text(5);
        x.close();
        Check.refused("open of the 21st name in CONTENT", FULL, () -> x.open(1, 10));
        Check.due("close", x.close(), 0);
    }

    private static void eightElements() {
        LearnedCodes x = new LearnedCodes();
        for (int i = 0; i < 8; i++) {
            x.open(0, 1);
        }
        int before = x.written();
        Check.refused("ninth element", FULL, () -> x.open(0, 1));
        Check.refused("ninth element, no name", ARGUMENT, () -> x.open(27, 1));
        Check.due("written", x.written(), before);
        x.attribute(0, 2, 2);
        x.text(1);
        Check.due("close", x.close(), 7);
        x.open(0, 1);
        for (int i = 7; i >= 0; i--) {
            Check.due("close", x.close(), i);
        }
    }

    private static void limitOfBits() {
        LearnedCodes openAt = Code.filled(3800);
        openAt.open(0, 2);
        LearnedCodes attributeAt = Code.filled(3788);
        attributeAt.open(0, 2);
        Check.due("in a tag", attributeAt.written(), 3800);
        attributeAt.attribute(14348906, 14348906, 14348906);
        Check.due("dearest attribute", attributeAt.written(), 3800 + 2 + 1 + 44 + 44 + 44);
        LearnedCodes textAt = Code.filled(3800);
        textAt.text(14348906);
        Check.due("dearest text", textAt.written(), 3846);
        LearnedCodes closeAt = Code.filled(3800);
        Check.due("close at 3800", closeAt.close(), 0);

        LearnedCodes inContent = Code.filled(3801);
        Check.refused("open behind 3800", FULL, () -> inContent.open(0, 1));
        Check.refused("text behind 3800", FULL, () -> inContent.text(0));
        Check.refused("close behind 3800", FULL, () -> inContent.close());
        Check.refused("attribute in content", STATE, () -> inContent.attribute(0, 1, 0));
        LearnedCodes inTag = Code.filled(3789);
        inTag.open(0, 2);
        Check.refused("attribute behind 3800", FULL, () -> inTag.attribute(0, 1, 0));
        Check.refused("no attribute", ARGUMENT, () -> inTag.attribute(0, 0, 0));
        Check.refused("close in a tag behind 3800", FULL, () -> inTag.close());
        Check.due("nothing of these is written", inTag.written() + inContent.written(), 7602);
        inTag.clear();
        inTag.open(0, 1);
        Check.due("cleared", inTag.written(), 9);
    }

    private static void clearing() {
        LearnedCodes x = new LearnedCodes();
        x.open(3, 1);
        x.attribute(4, 4, 9);
        x.text(9);
        x.keep();
        int bits = x.written();
        x.clear();
        Check.due("clear: written", x.written(), 0);
        Check.due("the stream stays", x.bit(bits - 1) >= 0, true);
        Check.refused("clear: text", STATE, () -> x.text(1));
        Check.refused("clear: close", STATE, () -> x.close());
        x.open(3, 1);
        x.text(9);
        Check.due("clear: close", x.close(), 0);
        written("tables are new", x, "0 0001 0011 0001 0001", "11 0011 1001 0001", "0");
        x.clear();
        x.open(0, 1);
        written("a whole one is cleared", x, "1 0001 0001");
    }
}
