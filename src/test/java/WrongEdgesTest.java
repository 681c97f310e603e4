/** The edges at which bits are wrong: what the Terms say of reading, one by one. */
public final class WrongEdgesTest {
    private static final String OPEN_A = "1 0001 0001";

    public static void main(String[] args) {
        Check.sentence("Terms",
                "It is WRONG, at the number of bits that were taken, when a bit is missing,",
                WrongEdgesTest::missingBit);
        Check.sentence("Terms, in TAG", "a place is none (not below m)",
                WrongEdgesTest::placesInTag);
        Check.sentence("Terms, in CONTENT", "a place is none (not below m)",
                WrongEdgesTest::placesInContent);
        Check.sentence("Terms, spaces", "a place is none (not below m)",
                WrongEdgesTest::placesOfSpaces);
        Check.sentence("Terms, local parts", "a place is none (not below m)",
                WrongEdgesTest::placesOfLocals);
        Check.sentence("Terms, values", "a place is none (not below m)",
                WrongEdgesTest::placesOfValues);
        Check.sentence("Terms, of all values", "a place is none (not below m)",
                WrongEdgesTest::placesOfAllValues);
        Check.sentence("Terms, of an empty table", "a place is none (not below m)",
                WrongEdgesTest::placesOfNothing);
        Check.sentence("Terms", "more than 5 letters are told,", WrongEdgesTest::sixLetters);
        Check.sentence("Terms, local part", "or one (as soon as it is read) is not 1 .. 26",
                WrongEdgesTest::lettersOfLocal);
        Check.sentence("Terms, space", "or one (as soon as it is read) is not 1 .. 26",
                WrongEdgesTest::lettersOfSpace);
        Check.sentence("Terms, value", "or one (as soon as it is read) is not 1 .. 26",
                WrongEdgesTest::lettersOfValue);
        Check.sentence("Terms",
                "a space or local part that was told by letters comes to a full table,",
                WrongEdgesTest::fullTables);
        Check.sentence("Terms", "or a name that is new (known by then) is the 21st,",
                WrongEdgesTest::name21);
        Check.sentence("Terms", "or a ninth element is opened (when its name is known);",
                WrongEdgesTest::ninthElement);
        Check.sentence("Terms", "bits behind the last CLOSE do not matter.",
                WrongEdgesTest::bitsBehind);
        Check.end();
    }

    private static LearnedCodes nothing() {
        return new LearnedCodes();
    }

    private static void missingBit() {
        String whole = Code.join("0 0010 0001 1001 0001 0001 0001",
                "01 10 0001 0010 0011 1000 0001",
                "1 01 01 0001 0011 0001", "10 11 0011 0010", "1 1 0000", "00 0001 1",
                "10 0 10 0000 0", "11 00", "10");
        LearnedCodes x = Code.streamOf(whole);
        Check.due("nothing is missing", Check.outcome(() -> x.read()), 9);
        Check.due("taken", x.taken(), whole.length());
        for (int n = whole.length() - 1; n >= 0; n--) {
            x.cut(n);
            Reads.isWrong("the first " + n, x, n);
        }
        Reads.isWrong("a new stream", nothing(), 0);
    }

    /** So many codes of TAG, which are learned one by one in the element a. */
    private static LearnedCodes tag(int codes) {
        LearnedCodes x = nothing();
        x.open(0, 1);
        for (int i = 0; i < codes; i++) {
            x.attribute(i / 9, i % 9 + 1, 0);
        }
        return x;
    }

    /** Each place of m from m on is wrong, and that below m is not a missing bit or a wrong one. */
    private static void placesFrom(int m, String what, LearnedCodes x, String before) {
        String lowest = Code.place(0, m);
        int bits = x.keep();
        for (int v = m; v < 1 << lowest.length(); v++) {
            x.cut(bits);
            Code.push(x, before, Code.place(v, m));
            int taken = bits + Code.join(before).length() + lowest.length();
            Reads.isWrong(what + ", place " + v + " of " + m, x, taken);
            x.cut(taken - 1);
            Reads.isWrong(what + ", a part of place " + v + " of " + m, x, taken - 1);
        }
        x.cut(bits);
        Code.push(x, before, Code.place(m - 1, m), "1111 1111 1111 1111 1111 1111");
        Check.refused(what + ", place " + (m - 1) + " of " + m, Refused.ARGUMENT, () -> x.read());
        Check.due(what + ", more is taken behind place " + (m - 1) + " of " + m,
                x.taken() > bits + Code.join(before).length() + lowest.length(), true);
    }

    private static void placesInTag() {
        for (int codes = 1; codes <= 12; codes++) {
            placesFrom(codes + 1, "TAG", tag(codes), "");
        }
    }

    private static LearnedCodes content(int codes) {
        LearnedCodes x = nothing();
        x.open(0, 1);
        x.text(0);
        for (int i = 1; i <= codes; i++) {
            x.open(i / 9, i % 9 + 1);
            x.close();
        }
        return x;
    }

    private static void placesInContent() {
        for (int codes = 0; codes <= 12; codes++) {
            placesFrom(codes + 2, "CONTENT", content(codes), "");
        }
    }

    private static void placesOfSpaces() {
        for (int spaces = 1; spaces <= 6; spaces++) {
            LearnedCodes x = nothing();
            x.open(0, 1);
            for (int space = 1; space < spaces; space++) {
                x.attribute(space, 1, 0);
            }
            placesFrom(spaces + 1, "spaces", x, Code.place(spaces - 1, spaces) + "01");
        }
    }

    private static void placesOfLocals() {
        for (int locals = 2; locals <= 10; locals++) {
            LearnedCodes x = nothing();
            x.open(0, 1);
            for (int local = 2; local <= locals; local++) {
                x.attribute(0, local, 0);
            }
            placesFrom(locals, "local parts", x, Code.place(locals - 1, locals) + "01 1 0000");
        }
    }

    private static void placesOfValues() {
        for (int values = 2; values <= 5; values++) {
            LearnedCodes x = nothing();
            x.open(0, 1);
            for (int value = 1; value <= values; value++) {
                x.attribute(0, 1, value);
            }
            placesFrom(values, "values", x, "0 0000");
        }
    }

    private static void placesOfAllValues() {
        for (int values = 2; values <= 20; values++) {
            LearnedCodes x = nothing();
            x.open(0, 1);
            for (int value = 1; value <= values; value++) {
                x.attribute(0, 1, value);
            }
            placesFrom(values, "all values", x, "0 0001");
        }
    }

    private static void placesOfNothing() {
        Reads.wrong("no local part of the empty space", nothing(), "1 0000");
        Reads.wrong("no local part of a new space", nothing(), "0 0001 0001 0000");
        Reads.wrong("no local part of a space at a new place", nothing(), OPEN_A,
                "01 0 0000 0000");
        Reads.wrong("no value of the name", nothing(), OPEN_A, "11 0000");
        Reads.wrong("no value at all", nothing(), OPEN_A, "11 0001");
        Reads.wrong("no value of an attribute", nothing(), OPEN_A, "01 1 0000 0000");
        Reads.wrong("no value at all for an attribute", nothing(), OPEN_A, "01 1 0000 0001");
        Reads.whole("one of one", nothing(), 4, OPEN_A, "01 1 0000 0011 0001", "1 11 0000", "0");
    }

    private static void sixLetters() {
        String five = "0001 0001 0001 0001 0001";
        Reads.whole("5 of a local part", nothing(), 2, "1 0101", five, "00");
        Reads.wrong("6 of a local part", nothing(), "1 0110");
        Reads.wrong("7 of a local part", nothing(), "1 0111");
        Reads.whole("5 of a space", nothing(), 2, "0 0101", five, "0001 0001 00");
        Reads.wrong("6 of a space", nothing(), "0 0110");
        Reads.whole("5 of a value", nothing(), 3, OPEN_A, "11 0111", five, "0");
        Reads.wrong("6 of a value", nothing(), OPEN_A, "11 1000 0001");
        Reads.wrong("6 of an attribute's value", nothing(), OPEN_A, "01 1 0000 1000 0001");
        Reads.wrong("64 of a local part", nothing(), "1 1000 1000 0001");
        Reads.wrong("4095 of a local part", nothing(), "1 1111 1111 1111 0111");
        Reads.wrong("4095 of a space", nothing(), "0 1111 1111 1111 0111");
        Reads.wrong("4093 of a value", nothing(), OPEN_A, "11 1111 1111 1111 0111");
    }

    /** Letters before, at and behind the edges, each as the first, second .. of up to five. */
    private static void letters(String what, String before, int more, String behind, int events) {
        for (int count = 1; count <= 5; count++) {
            for (int at = 0; at < count; at++) {
                String front = before + Code.number(count + more) + "0001".repeat(at);
                String back = "0001".repeat(count - 1 - at) + behind;
                String name = what + ", letter " + at + " of " + count + " is ";
                Reads.wrong(name + 0, nothing(), front, "0000");
                Reads.whole(name + 1, nothing(), events, front, "0001", back);
                Reads.whole(name + 26, nothing(), events, front, "1010 0011", back);
                Reads.wrong(name + 27, nothing(), front, "1011 0011");
                Reads.wrong(name + 28, nothing(), front, "1100 0011");
                Reads.wrong(name + 64, nothing(), front, "1000 1000 0001");
                Reads.wrong(name + 512 + 1, nothing(), front, "1001 1000 1000 0001");
            }
        }
    }

    private static void lettersOfLocal() {
        letters("local part", "1", 0, "00", 2);
    }

    private static void lettersOfSpace() {
        letters("space", "0", 0, "0001 0001 00", 2);
    }

    private static void lettersOfValue() {
        letters("text", OPEN_A + "11", 2, "0", 3);
        letters("attribute", OPEN_A + "01 1 0000", 2, "1 00", 3);
    }

    private static void fullTables() {
        LearnedCodes six = nothing();
        LearnedCodes ten = nothing();
        six.open(0, 1);
        ten.open(0, 1);
        for (int space = 1; space <= 5; space++) {
            six.attribute(space, 1, 0);
        }
        for (int local = 2; local <= 10; local++) {
            ten.attribute(0, local, 0);
        }
        Reads.wrong("a space, behind its letters", six, "101 01 000 0010 0110 0001");
        Reads.wrong("the empty space, behind its number", six, "101 01 000 0000");
        Reads.wrong("a letter of it is wrong before", six, "101 01 000 0010 0000");
        Reads.whole("one that is told by its place", six, 8, "101 01 010 0001 0010 0010",
                "110 00");
        Reads.wrong("a local part, behind its letters", ten, "1001 01 1 0010 0001 0001");
        Reads.wrong("a letter of it is wrong before", ten, "1001 01 1 0010 0000");
        Reads.wrong("it has too many letters before", ten, "1001 01 1 0110");
        Reads.whole("one that is told by its place", ten, 12, "1001 01 1 0000 1001 0010",
                "1001 00");
    }

    private static void name21() {
        LearnedCodes x = tag(20);
        Reads.wrong("of an attribute, behind its name", x, "1100 01 11 0001 0011");
        Reads.wrong("of an element, behind its name", x, "1100 10 11 0001 0011");
        Reads.wrong("in a new space, behind its local part", x,
                "1100 01 00 0001 0100 0001 0001");
        Reads.whole("a name that came, by letters", x, 22 + 1, "1100 01 11 0001 0010 0010",
                "1100 00");
        Reads.whole("the twentieth", tag(19), 20 + 2, "1100 01 11 0001 0010 0010", "1100 00");
    }

    private static void ninthElement() {
        LearnedCodes x = nothing();
        for (int i = 0; i < 8; i++) {
            x.open(0, 1);
        }
        Reads.wrong("by a learned code, behind it", x, "0");
        Reads.wrong("of a known name, behind it", x, "1 10 1 0000");
        Reads.wrong("of a new name, behind it", x, "1 10 1 0001 0010");
        Reads.wrong("of a new space, behind the local part", x, "1 10 0 0001 0010 0001 0001");
        Reads.wrong("behind text, by a code that is not learned", x, "1 11 0010", "1 0 1 0000");
        Reads.wrong("the name is wrong before", x, "1 10 1 0001 0000");
        Reads.whole("eight", x, 16, "1 00", "0000 000");
        Reads.whole("the eighth is another one", x, 18, "1 00", "1 0 1 0000", "00",
                "01 01 01 01 01 01 01");
    }

    private static void bitsBehind() {
        String whole = Code.join(OPEN_A, "11 0010", "0");
        for (String behind : new String[] {"", "0", "1", "00000000", "11111111",
            "1 0001 0001 00", "1 0000"}) {
            LearnedCodes x = Code.streamOf(whole, behind);
            Check.due("read, " + behind + " behind", Check.outcome(() -> x.read()), 3);
            Check.due("taken, " + behind + " behind", x.taken(), whole.length());
            Check.refused("no more events", Refused.INDEX, () -> x.event(3, 0));
            Check.due("they stay in the stream", x.push(true),
                    Code.join(whole, behind).length() + 1);
        }
        LearnedCodes inner = Code.streamOf(OPEN_A, "10 1 0001 0010", "00");
        Reads.isWrong("behind the inner CLOSE a bit is missing", inner, 22);
    }
}
