/** Makes bits by the words of the document under BITS, and brings them to an object and back. */
final class Code {
    private Code() {
    }

    static String place(int v, int m) {
        StringBuilder bits = new StringBuilder();
        for (int power = 1; power < m; power *= 2) {
            bits.insert(0, v / power % 2);
        }
        return bits.toString();
    }

    static String number(int v) {
        String group = place(v % 8, 8);
        return v < 8 ? "0" + group : "1" + group + number(v / 8);
    }

    /** The number of the letters (and so many more), and these. */
    static String letters(String text, int more) {
        StringBuilder bits = new StringBuilder(number(text.length() + more));
        for (char letter : text.toCharArray()) {
            bits.append(number(letter - 'a' + 1));
        }
        return bits.toString();
    }

    static int text(String letters) {
        int value = 0;
        for (int i = letters.length() - 1; i >= 0; i--) {
            value = value * 27 + letters.charAt(i) - 'a' + 1;
        }
        return value;
    }

    static String join(String... parts) {
        return String.join("", parts).replace(" ", "");
    }

    static void push(LearnedCodes x, String... parts) {
        for (char bit : join(parts).toCharArray()) {
            x.push(bit == '1');
        }
    }

    static LearnedCodes streamOf(String... parts) {
        LearnedCodes x = new LearnedCodes();
        push(x, parts);
        return x;
    }

    static String stream(LearnedCodes x, int count) {
        return stream(x, 0, count);
    }

    private static String stream(LearnedCodes x, int from, int to) {
        StringBuilder bits = new StringBuilder();
        for (int i = from; i < to; i++) {
            bits.append(x.bit(i));
        }
        return bits.toString();
    }

    static String kept(LearnedCodes x) {
        return keptFrom(x, 0);
    }

    /** What was written behind the first bits, by no more calls than needed. */
    static String keptFrom(LearnedCodes x, int before) {
        return stream(x, before, x.keep());
    }

    static String event(LearnedCodes x, int i) {
        return x.event(i, 0) + " " + x.event(i, 1) + " " + x.event(i, 2) + " " + x.event(i, 3);
    }

    /** An object with so many bits written, in the content of one element that may be closed. */
    static LearnedCodes filled(int bits) {
        LearnedCodes x = new LearnedCodes();
        x.open(0, 1);
        if (bits % 2 == 0) {
            x.attribute(0, 1, 0);
            x.attribute(0, 1, 0);
        }
        x.text(0);
        x.text(0);
        for (int i = 0; bits - x.written() > 100; i++) {
            x.text(text("zzz") + 27 * 27 * 27 * (8 + i % 19) + 27 * 27 * 27 * 27 * (8 + i / 19));
        }
        // the empty text takes 6 bits, and one of a low letter that is new takes 10
        for (int i = 1; (bits - x.written()) % 6 != 0; i++) {
            x.text(i);
        }
        while (x.written() < bits) {
            x.text(0);
        }
        Check.due("bits that are wanted", x.written(), bits);
        return x;
    }
}
