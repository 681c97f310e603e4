/** The edges of texts and names, of the Terms and of promises 2, 3 and 4. */
public final class TextEdgesTest {
    private static final int ZZZZZ = 14348906;

    public static void main(String[] args) {
        Check.sentence("Terms", "TEXTS are numbers: of at most five letters a .. z",
                TextEdgesTest::fiveLetters);
        Check.sentence("Terms", "as digits 1 .. 26 to the base of 27", TextEdgesTest::digits);
        Check.sentence("Terms", "the first letter the lowest one", TextEdgesTest::firstLetter);
        Check.sentence("Terms", "(no digit 0 below another)", TextEdgesTest::digitZero);
        Check.sentence("Terms", "0 is the empty one.", TextEdgesTest::emptyText);
        Check.sentence("Terms",
                "A NAME is two texts, its SPACE, and its LOCAL part, which is not empty.",
                TextEdgesTest::localPart);
        Check.sentence("Promise 2", "IllegalArgumentException: that is no name",
                TextEdgesTest::openOfNoName);
        Check.sentence("Promise 3", "IllegalArgumentException: that is no name, or no value",
                TextEdgesTest::attributeOfNoNameOrValue);
        Check.sentence("Promise 4", "IllegalArgumentException: that is no value",
                TextEdgesTest::textOfNoValue);
        Check.end();
    }

    private static LearnedCodes inTag() {
        LearnedCodes x = new LearnedCodes();
        x.open(0, 1);
        x.attribute(0, 2, 3);
        return x;
    }

    /** The text is a space, a local part and a value, and comes back when it is read. */
    private static void goesIn(int text) {
        LearnedCodes x = new LearnedCodes();
        x.open(text, text);
        x.attribute(0, text, text);
        x.attribute(text, 1, text);
        x.text(text);
        x.close();
        x.keep();
        Check.due(text + ": read", Check.outcome(() -> x.read()), 5);
        Check.due(text + ": open", Code.event(x, 0), "1 " + text + " " + text + " 0");
        Check.due(text + ": attribute", Code.event(x, 1), "2 0 " + text + " " + text);
        Check.due(text + ": attribute", Code.event(x, 2), "2 " + text + " 1 " + text);
        Check.due(text + ": text", Code.event(x, 3), "3 0 0 " + text);
    }

    /** No text: at each place where a text is asked for. */
    private static void staysOut(int number) {
        Refused.leavesAll("first open, space " + number, Refused.ARGUMENT, LearnedCodes::new,
                x -> x.open(number, 1));
        Refused.leavesAll("first open, local " + number, Refused.ARGUMENT, LearnedCodes::new,
                x -> x.open(1, number));
        Refused.leavesAll("open, space " + number, Refused.ARGUMENT, TextEdgesTest::inTag,
                x -> x.open(number, 1));
        Refused.leavesAll("open, local " + number, Refused.ARGUMENT, TextEdgesTest::inTag,
                x -> x.open(1, number));
        Refused.leavesAll("attribute, space " + number, Refused.ARGUMENT, TextEdgesTest::inTag,
                x -> x.attribute(number, 1, 1));
        Refused.leavesAll("attribute, local " + number, Refused.ARGUMENT, TextEdgesTest::inTag,
                x -> x.attribute(1, number, 1));
        Refused.leavesAll("attribute, value " + number, Refused.ARGUMENT, TextEdgesTest::inTag,
                x -> x.attribute(1, 1, number));
        Refused.leavesAll("text " + number, Refused.ARGUMENT, TextEdgesTest::inTag,
                x -> x.text(number));
    }

    private static void fiveLetters() {
        goesIn(Code.text("aaaaa"));
        goesIn(ZZZZZ);
        staysOut(ZZZZZ + 1);
        staysOut(Code.text("aaaaaa"));
        staysOut(Code.text("zzzzzz"));
        staysOut(Code.text("aaaaaaa"));
        staysOut(Integer.MAX_VALUE);
    }

    private static void digits() {
        for (int digit = 1; digit <= 26; digit++) {
            goesIn(digit);
        }
        goesIn(Code.text("zz"));
        goesIn(Code.text("azaza"));
        staysOut(-1);
        staysOut(-26);
        staysOut(-28);
        staysOut(-ZZZZZ);
        staysOut(Integer.MIN_VALUE);
        staysOut(Integer.MIN_VALUE + 1);
    }

    private static void firstLetter() {
        LearnedCodes x = new LearnedCodes();
        x.open(0, 1 + 27 * 2);
        Check.due("ab", Code.kept(x), Code.join("1", "0010 0001 0010"));
        x.clear();
        x.open(0, 5 + 27 * 4 + 27 * 27 * 3 + 27 * 27 * 27 * 2 + 27 * 27 * 27 * 27);
        Check.due("edcba", Code.kept(x), Code.join("1", "0101 0101 0100 0011 0010 0001"));
    }

    private static void digitZero() {
        int[] powers = {1, 27, 27 * 27, 27 * 27 * 27, 27 * 27 * 27 * 27};
        for (int low = 0; low < 4; low++) {
            // digit 0 at one place alone, with letters on all others up to the fifth
            int withZero = Code.text("zzzzz") - 26 * powers[low];
            staysOut(withZero);
            goesIn(withZero + powers[low]);
            // the least number that has one letter more, and the highest one below it
            staysOut(powers[low + 1]);
            goesIn(powers[low + 1] - 1);
        }
        staysOut(powers[2] + 1);
        goesIn(powers[2] + 28);
    }

    private static void emptyText() {
        LearnedCodes x = new LearnedCodes();
        x.open(0, 1);
        x.attribute(0, 1, 0);
        x.text(0);
        x.close();
        Check.due("the empty space and value", Code.kept(x),
                Code.join("1 0001 0001", "01 1 0000 0010", "1 11 0010", "0"));
        Check.due("read", Check.outcome(() -> x.read()), 4);
        Check.due("open", Code.event(x, 0), "1 0 1 0");
        Check.due("attribute", Code.event(x, 1), "2 0 1 0");
        Check.due("text", Code.event(x, 2), "3 0 0 0");
    }

    private static void localPart() {
        for (int space : new int[] {0, 1, ZZZZZ}) {
            Refused.leavesAll("first open, no local", Refused.ARGUMENT, LearnedCodes::new,
                    x -> x.open(space, 0));
            Refused.leavesAll("open, no local", Refused.ARGUMENT, TextEdgesTest::inTag,
                    x -> x.open(space, 0));
            Refused.leavesAll("attribute, no local", Refused.ARGUMENT, TextEdgesTest::inTag,
                    x -> x.attribute(space, 0, 1));
            LearnedCodes x = new LearnedCodes();
            x.open(space, 1);
            x.attribute(space, 1, 1);
            Check.due("the least local", x.close(), 0);
        }
    }

    private static void openOfNoName() {
        LearnedCodes x = new LearnedCodes();
        Check.refused("space", Refused.ARGUMENT, () -> x.open(27, 1));
        Check.refused("local", Refused.ARGUMENT, () -> x.open(1, 27));
        Check.refused("both", Refused.ARGUMENT, () -> x.open(-1, 27));
        Check.refused("neither is there", Refused.ARGUMENT, () -> x.open(0, 0));
        Check.due("nothing is written", x.written(), 0);
        x.open(26, 28);
        Check.due("a name", Code.kept(x),
                Code.join("0 0001 1010 0011", "0010 0001 0001"));
    }

    private static void attributeOfNoNameOrValue() {
        LearnedCodes x = inTag();
        Check.refused("space", Refused.ARGUMENT, () -> x.attribute(27, 1, 1));
        Check.refused("local", Refused.ARGUMENT, () -> x.attribute(1, 27, 1));
        Check.refused("no local", Refused.ARGUMENT, () -> x.attribute(1, 0, 1));
        Check.refused("value", Refused.ARGUMENT, () -> x.attribute(1, 1, 27));
        Check.refused("value of a learned code", Refused.ARGUMENT, () -> x.attribute(0, 2, 27));
        Check.due("nothing more is written", x.written(), 28);
        x.attribute(0, 2, 28);
        Check.due("the tables are as they were", Code.kept(x).substring(28),
                Code.join("0 0100 0001 0001"));
    }

    private static void textOfNoValue() {
        LearnedCodes x = inTag();
        Check.refused("text", Refused.ARGUMENT, () -> x.text(27));
        Check.refused("text", Refused.ARGUMENT, () -> x.text(-1));
        Check.due("nothing more is written", x.written(), 28);
        x.attribute(0, 2, 26);
        Check.due("no text has come", x.written(), 28 + 13);
        x.text(26);
        Check.due("the text is the first", Code.kept(x).substring(28 + 13),
                Code.join("1 11 0001 1"));
    }
}
