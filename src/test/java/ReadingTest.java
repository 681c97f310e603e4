/** Promises 13 to 15: what is read, where it is wrong, and the events. */
public final class ReadingTest {
    private static final String OPEN_A = "1 0001 0001";

    public static void main(String[] args) {
        eventsAreRead();
        partsThatAreNone();
        missingBits();
        longNumbers();
        wrongLetters();
        wrongPlaces();
        emptyTables();
        toldAgain();
        valuesToldAgain();
        codesToldAgain();
        fullSpaces();
        fullLocals();
        twoTablesOfLocals();
        names21();
        ninthElement();
        twelveCodes();
        events201();
        readingAfterReading();
        Check.end();
    }

    private static void whole(String what, LearnedCodes x, int events, int taken) {
        Check.due(what, Check.outcome(() -> x.read()), events);
        Check.due(what + ": taken", x.taken(), taken);
        Check.refused(what + ": no more events", IndexOutOfBoundsException.class,
                () -> x.event(events, 0));
    }

    private static void wrong(String what, LearnedCodes x, int taken) {
        refused(what, IllegalArgumentException.class, x, taken);
    }

    private static void refused(String what, Class<? extends RuntimeException> want,
            LearnedCodes x, int taken) {
        Check.refused(what, want, () -> x.read());
        Check.due(what + ": taken", x.taken(), taken);
        Check.refused(what + ": no events", IndexOutOfBoundsException.class, () -> x.event(0, 0));
        Check.refused(what + ": not again", IllegalStateException.class, () -> x.again());
    }

    /** Wrong as soon as the last one of the bits is taken; what comes behind does not matter. */
    private static void wrongBehind(String what, String... parts) {
        int length = Code.join(parts).length();
        wrong(what, Code.streamOf(parts), length);
        LearnedCodes more = Code.streamOf(parts);
        Code.push(more, "0101 1010");
        wrong(what + " (and more)", more, length);
    }

    private static LearnedCodes example() {
        LearnedCodes x = new LearnedCodes();
        x.open(3, 1);
        x.attribute(0, 2, Code.text("zoe"));
        x.attribute(3, 2, 0);
        x.open(0, 4);
        x.text(Code.text("zoe"));
        x.close();
        x.open(0, 4);
        x.close();
        x.text(9);
        x.close();
        return x;
    }

    private static void eventsAreRead() {
        LearnedCodes x = example();
        int bits = x.keep();
        Code.push(x, "11011");
        whole("example", x, 10, bits);
        String[] want = {"1 3 1 0", "2 0 2 " + Code.text("zoe"), "2 3 2 0", "1 0 4 0",
            "3 0 0 " + Code.text("zoe"), "4 0 0 0", "1 0 4 0", "4 0 0 0", "3 0 0 9", "4 0 0 0"};
        for (int i = 0; i < want.length; i++) {
            Check.due("event " + i, Code.event(x, i), want[i]);
        }
        Check.due("what is written stays", x.written(), bits);
        whole("least document", Code.streamOf(OPEN_A, "00"), 2, 11);
    }

    private static void partsThatAreNone() {
        LearnedCodes x = Code.streamOf(OPEN_A, "00");
        Check.refused("event before read", IndexOutOfBoundsException.class, () -> x.event(0, 0));
        Check.refused("no event, no part", IndexOutOfBoundsException.class, () -> x.event(0, 4));
        x.read();
        for (int none : new int[] {-1, 4, 5, Integer.MAX_VALUE, Integer.MIN_VALUE}) {
            Check.refused("part " + none, IllegalArgumentException.class, () -> x.event(1, none));
        }
        for (int none : new int[] {-1, 2, 200, 201, Integer.MAX_VALUE, Integer.MIN_VALUE}) {
            Check.refused("event " + none, IndexOutOfBoundsException.class, () -> x.event(none, 0));
            Check.refused("event " + none, IndexOutOfBoundsException.class, () -> x.event(none, 4));
        }
    }

    private static void missingBits() {
        LearnedCodes x = example();
        int bits = x.keep();
        for (int n = 0; n < bits; n++) {
            x.keep();
            x.cut(n);
            Check.refused("cut " + n, IllegalArgumentException.class, () -> x.read());
            Check.due("cut " + n + ": taken", x.taken(), n);
        }
        wrong("nothing", new LearnedCodes(), 0);
    }

    private static void longNumbers() {
        whole("four groups", Code.streamOf("1 1001 1000 1000 0000 1010 1011 1000 0000 00"), 2, 35);
        LearnedCodes x = Code.streamOf("1 1001 1000 1000 0000 1010 1011 1000 0000 00");
        x.read();
        Check.due("four groups", Code.event(x, 0), "1 0 26 0");
        wrongBehind("five groups", "1 1001 1000 1000 1000");
        wrong("fifth group told, bits missing", Code.streamOf("1 1001 1000 1000 100"), 16);
        wrong("front of the fourth group", Code.streamOf("1 1001 1000 1000 1"), 14);
        wrongBehind("five groups of a letter", "1 0001 1001 1000 1000 1000");
        wrongBehind("five groups of a space", "0 1001 1000 1000 1000");
        wrongBehind("five groups of a value", OPEN_A, "11 1010 1000 1000 1000");
        wrongBehind("highest number of letters", "1 1111 1111 1111 0111");
        wrongBehind("highest number of a value", OPEN_A, "11 1111 1111 1111 0111");
        whole("long 0", Code.streamOf(OPEN_A, "10 1 1000 0000", "1 00", "0"), 4, 24);
        whole("long 2", Code.streamOf(OPEN_A, "11 1010 0000 0"), 3, 20);
    }

    private static void wrongLetters() {
        wrongBehind("6 letters", "1 0110");
        wrongBehind("8 letters", "1 1000 0001");
        wrongBehind("6 letters of a space", "0 0110");
        wrongBehind("6 letters of a value", OPEN_A, "11 1000 0001");
        whole("5 letters of a value",
                Code.streamOf(OPEN_A, "11 0111 0001 0001 0001 0001 0001 0"), 3, 36);
        wrongBehind("letter 0", "1 0001 0000");
        wrongBehind("long letter 0", "1 0001 1000 0000");
        wrongBehind("letter 27", "1 0001 1011 0011");
        wrongBehind("letter 1024", "1 0001 1000 1000 1000 0010");
        wrongBehind("first letter of two", "1 0010 0000");
        wrongBehind("second letter of two", "1 0010 0001 0000");
        wrongBehind("letter of a space", "0 0001 0000");
        wrongBehind("letter of a value", OPEN_A, "11 0011 0000");
        wrongBehind("letter of an attribute", OPEN_A, "01 1 0000 0100 0001 1100 0011");
    }

    private static void wrongPlaces() {
        String spaceB = "0 0001 0010 0001 0001";
        wrongBehind("place 3 of 3 spaces", spaceB, "01 11");
        wrongBehind("place 3 of 3 in TAG", OPEN_A, "01 1 0000 0010", "1 01 1 0001 0010 0010", "11");
        wrongBehind("place 3 of 3 in CONTENT", OPEN_A, "11 0010", "1 1 0010", "11");
        wrongBehind("place 3 of 3 locals", OPEN_A, "01 1 0001 0010 0010",
                "1 01 1 0001 0011 0010", "10 01 1 0000 11");
        wrongBehind("place 3 of 3 values", OPEN_A, "11 0011 0001", "1 1 0011 0010",
                "00 0011 0011", "00 0000 11");
        wrongBehind("place 3 of 3 of all", OPEN_A, "11 0011 0001", "1 1 0011 0010",
                "00 0011 0011", "00 0001 11");
    }

    private static void emptyTables() {
        wrongBehind("no local", "1 0000");
        wrongBehind("no local, long 0", "1 1000 0000");
        wrongBehind("no local of a new space", OPEN_A, "01 0 0001 0001 0000");
        wrongBehind("no value of the name", OPEN_A, "11 0000");
        wrongBehind("no value at all", OPEN_A, "11 0001");
        wrongBehind("no value of this name", OPEN_A, "01 1 0001 0010 0011 0001",
                "1 11 0000");
        wrongBehind("no value of the attribute", OPEN_A, "01 1 0000 0000");
        wrongBehind("no value for the attribute", OPEN_A, "01 1 0000 0001");
        wrongBehind("the empty one comes into no table", OPEN_A, "11 0010", "1 1 0000");
        wrongBehind("the empty one is not among all", OPEN_A, "11 0010", "1 1 0001");
        wrongBehind("one of all does not come to the name", OPEN_A, "01 1 0001 0010 0011 0001",
                "1 11 0001", "1 1 0000");
    }

    private static void toldAgain() {
        wrongBehind("no local of a space that is there twice", "0 0001 0001 0001 0001",
                "01 00 0001 0001 0000");
        LearnedCodes y = Code.streamOf("0 0000 0001 0001", "01 01 0001 0010 0010",
                "1 01 10 0001 0010 0010", "0 0010", "1 00");
        whole("the empty space twice", y, 5, 54);
        Check.due("of the first place", Code.event(y, 1), "2 0 2 0");
        Check.due("of the second place", Code.event(y, 2), "2 0 2 0");
        Check.due("one name", Code.event(y, 3), "2 0 2 0");
        whole("a local part twice", Code.streamOf(OPEN_A, "01 1 0001 0001 0010",
                "1 01 1 0000 1 0010", "1 00"), 4, 40);
    }

    private static void valuesToldAgain() {
        LearnedCodes x = Code.streamOf(OPEN_A, "11 0011 0001", "1 1 0011 0001", "00 0011 0010",
                "00 0000 01", "00 0000 10", "00 0001 10", "01");
        whole("a value twice", x, 8, 65);
        Check.due("place 1", Code.event(x, 4), "3 0 0 1");
        Check.due("place 2", Code.event(x, 5), "3 0 0 2");
        Check.due("place 2 of all", Code.event(x, 6), "3 0 0 2");
        LearnedCodes y = Code.streamOf(OPEN_A, "11 0011 0001", "1 1 0011 0010", "00 0011 0011",
                "00 0011 0100", "00 0011 0101", "00 0011 0110", "00 0000 100", "00 0001 101", "01");
        whole("five values of a name, six of all", y, 10, 89);
        Check.due("the fifth", Code.event(y, 7), "3 0 0 5");
        Check.due("the sixth of all", Code.event(y, 8), "3 0 0 6");
    }

    private static void codesToldAgain() {
        LearnedCodes x = Code.streamOf(OPEN_A, "01 1 0000 0010", "1 01 1 0000 0010",
                "1 11 0010", "1 1 0010", "10 1 0010", "10 0 1 0000", "10 00", "10");
        whole("learned once", x, 9, 66);
        Check.due("attribute", Code.event(x, 2), "2 0 1 0");
        Check.due("text", Code.event(x, 5), "3 0 0 0");
        Check.due("child", Code.event(x, 6), "1 0 1 0");
    }

    private static void fullSpaces() {
        StringBuilder five = new StringBuilder("0 0001 0001 0001 0001");
        for (int space = 2; space <= 5; space++) {
            five.append(Code.place(space - 2, space - 1)).append("01");
            five.append(Code.place(0, space + 1)).append("0001").append(Code.place(space, 16));
            five.append("0001 0001 0010");
        }
        String six = five.toString();
        whole("six spaces", Code.streamOf(six, "100 00"), 6, Code.join(six).length() + 5);
        wrongBehind("seventh space", six, "100 01 000 0001 0110");
        wrongBehind("seventh space that is there", six, "100 01 000 0001 0001");
        wrongBehind("seventh space, the empty one", six, "100 01 000 0000");
        wrongBehind("place 7 of 7", six, "100 01 111");
        whole("place 6 of 7", Code.streamOf(six, "100 01 110 0000 0010", "000 0010", "100 00"), 8,
                Code.join(six).length() + 28);
    }

    private static String tenLocals() {
        StringBuilder ten = new StringBuilder(OPEN_A);
        for (int local = 2; local <= 10; local++) {
            ten.append(Code.place(local - 2, local - 1)).append("01 1 0001");
            ten.append(Code.number(local)).append("0010");
        }
        return ten.toString();
    }

    private static void fullLocals() {
        String ten = tenLocals();
        whole("ten locals", Code.streamOf(ten, "1001 00"), 11, Code.join(ten).length() + 6);
        wrongBehind("eleventh local", ten, "1001 01 1 0001 1011 0001");
        wrongBehind("eleventh local that is there", ten, "1001 01 1 0001 0001");
        wrongBehind("place 10 of 10", ten, "1001 01 1 0000 1010");
        wrongBehind("place 10 of 10 codes", ten, "1010");
    }

    private static void twoTablesOfLocals() {
        String ten = tenLocals();
        LearnedCodes x = Code.streamOf(ten, "1001 01 0 0000 0001 1011 0001 0010", "1010 00");
        whole("eleventh local at another place", x, 12, Code.join(ten).length() + 33);
        Check.due("of the empty space", Code.event(x, 10), "2 0 11 0");
    }

    /** Twenty names: a .. j of the empty space and of space a; the elements' codes are in TAG. */
    private static String twentyNames() {
        StringBuilder bits = new StringBuilder(tenLocals());
        bits.append("1001 01 0 0001 0001 0001 0001 0010");
        for (int local = 2; local <= 10; local++) {
            int learned = Math.min(local + 8, 12);
            bits.append(Code.place(learned, learned + 1)).append("01 10 0001");
            bits.append(Code.number(local)).append("0010");
        }
        return bits.toString();
    }

    private static void names21() {
        String twenty = twentyNames();
        whole("twenty names", Code.streamOf(twenty, "1100 00"), 21, Code.join(twenty).length() + 6);
        wrongBehind("21st name", twenty, "1100 01 00 0001 0010 0001 0001");
        wrongBehind("21st name is opened", twenty, "1100 10 00 0001 0010 0001 0001");
        LearnedCodes x = Code.streamOf(twenty, "1100 01 00 0001 0001 0001 0001 0010", "1100 00");
        whole("a name that is there, by letters", x, 22, Code.join(twenty).length() + 34);
    }

    private static void ninthElement() {
        String eight = OPEN_A + "10 1 0000" + "0000 00";
        whole("eight elements", Code.streamOf(eight, "1 00", "0000 000"), 16, 32);
        wrongBehind("ninth element, learned", eight, "0");
        wrongBehind("ninth element, of a known name", eight, "1 10 1 0000");
        wrongBehind("ninth element, of a new name", eight, "1 10 1 0001 0010");
        wrongBehind("ninth element in CONTENT", eight, "1 11 0010", "1 0 1 0000");
        whole("attribute in the eighth", Code.streamOf(eight, "1 01 1 0000 0010", "10 00",
                "0000 000"), 17, 45);
    }

    private static void twelveCodes() {
        String twenty = twentyNames();
        wrongBehind("place 13 of 13", twenty, "1101");
        LearnedCodes x = Code.streamOf(twenty, "1011 0010", "0000 0010", "1100 00");
        whole("places of 13", x, 23, Code.join(twenty).length() + 22);
        Check.due("the first one that was learned", Code.event(x, 20), "2 0 2 0");
        Check.due("the last one that was learned", Code.event(x, 21), "2 1 3 0");
    }

    private static LearnedCodes texts(int count) {
        LearnedCodes x = new LearnedCodes();
        x.open(0, 1);
        for (int i = 0; i < count; i++) {
            x.text(1);
        }
        return x;
    }

    private static void events201() {
        LearnedCodes x = texts(198);
        x.close();
        int bits = x.keep();
        whole("200 events", x, 200, bits);
        Check.due("the last one", x.event(199, 0), 4);
        x.clear();
        LearnedCodes y = texts(199);
        y.keep();
        wrong("200 events, the 201st is missing", y, y.written());
        y.close();
        bits = y.keep();
        refused("the 201st is the last", UnsupportedOperationException.class, y, bits);
        y.cut(bits - 1);
        wrong("the 201st is wrong", y, bits - 1);
        LearnedCodes z = texts(200);
        bits = z.keep();
        refused("201 events", UnsupportedOperationException.class, z, bits);
        Code.push(z, "00 000");
        refused("201 events and a part", UnsupportedOperationException.class, z, bits);
        z.cut(bits - 1);
        wrong("the value of the 201st is missing", z, bits - 1);
    }

    private static void readingAfterReading() {
        LearnedCodes x = example();
        int bits = x.keep();
        whole("first", x, 10, bits);
        whole("second", x, 10, bits);
        x.cut(bits - 1);
        Check.due("cut leaves the events", x.event(9, 0), 4);
        Check.due("cut leaves what was taken", x.taken(), bits);
        wrong("cut", x, bits - 1);
        x.clear();
        Check.due("clear leaves what was taken", x.taken(), bits - 1);
        x.open(0, 1);
        x.close();
        x.keep();
        whole("another one", x, 2, 11);
    }
}
