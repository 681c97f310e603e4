import java.util.ArrayList;
import java.util.HashMap;
import java.util.LinkedHashSet;
import java.util.List;
import java.util.Map;
import java.util.Random;
import java.util.Set;

/**
 * The document's words once more, as slow and plain as can be: texts are Strings, bits are
 * characters, and what is written is made anew from all events at each call.
 */
final class Model {
    /** The bits are wrong. */
    static final class Wrong extends RuntimeException {
        private static final long serialVersionUID = 1;
    }

    /** Something is full. */
    static final class Full extends RuntimeException {
        private static final long serialVersionUID = 1;
    }

    record Event(String kind, String space, String local, String value) {
        String name() {
            return space + ":" + local;
        }
    }

    private static final List<String> KINDS = List.of("", "open", "attribute", "text", "close");
    private static final List<String> TAG_KINDS = List.of("close", "attribute", "open", "text");
    private static final List<String> CONTENT_KINDS = List.of("open", "text");

    /** What has come in a document. */
    static final class Past {
        final List<String> spaces = new ArrayList<>(List.of(""));
        final List<List<String>> locals = new ArrayList<>(List.of(new ArrayList<>()));
        final Set<String> names = new LinkedHashSet<>();
        final Map<String, List<String>> values = new HashMap<>();
        final List<String> all = new ArrayList<>();
        final Map<String, List<String>> rows = new HashMap<>();
        final List<String> open = new ArrayList<>();
        final List<Boolean> inTag = new ArrayList<>();
        boolean begun;

        int inner() {
            return open.size() - 1;
        }

        List<String> row() {
            String key = inTag.get(inner()) + " " + open.get(inner());
            return rows.computeIfAbsent(key, k -> new ArrayList<>());
        }

        List<String> valuesOf(String name) {
            return values.computeIfAbsent(name, k -> new ArrayList<>());
        }

        void learn(String code) {
            if (!row().contains(code) && row().size() < 12) {
                row().add(0, code);
            }
        }

        void toldValue(String name, String value) {
            if (!value.isEmpty() && valuesOf(name).size() < 5) {
                valuesOf(name).add(value);
            }
            if (!value.isEmpty() && all.size() < 20) {
                all.add(value);
            }
        }

        void happen(Event e) {
            if (!e.kind.equals("attribute") && begun) {
                inTag.set(inner(), false);
            }
            if (e.kind.equals("open")) {
                open.add(e.name());
                inTag.add(true);
            }
            if (e.kind.equals("close")) {
                open.remove(inner());
                inTag.remove(inTag.size() - 1);
            }
            begun = true;
        }

        boolean whole() {
            return begun && open.isEmpty();
        }
    }

    // Writing

    static String encode(List<Event> events) {
        return encode(events, 3800);
    }

    private static String encode(List<Event> events, int limit) {
        Past past = new Past();
        StringBuilder bits = new StringBuilder();
        for (Event e : events) {
            if (bits.length() > limit) {
                throw new Full();
            }
            encode(past, e, bits);
        }
        return bits.toString();
    }

    private static void encode(Past past, Event e, StringBuilder bits) {
        boolean named = e.kind.equals("open") || e.kind.equals("attribute");
        if (e.kind.equals("open") && past.open.size() == 8) {
            throw new Full();
        }
        String code = named ? e.kind + " " + e.name() : e.kind;
        if (!past.begun) {
            encodeName(past, e, bits);
        } else if (past.row().contains(code)) {
            bits.append(Code.place(past.row().indexOf(code), codeChoices(past)));
        } else if (e.kind.equals("close") && !past.inTag.get(past.inner())) {
            bits.append(Code.place(past.row().size(), codeChoices(past)));
        } else {
            List<String> kinds = past.inTag.get(past.inner()) ? TAG_KINDS : CONTENT_KINDS;
            bits.append(Code.place(codeChoices(past) - 1, codeChoices(past)));
            bits.append(Code.place(kinds.indexOf(e.kind), kinds.size()));
            if (named) {
                encodeName(past, e, bits);
            }
            past.learn(code);
        }
        if (e.kind.equals("attribute")) {
            encodeValue(past, e.name(), e.value, bits);
        }
        if (e.kind.equals("text")) {
            encodeValue(past, past.open.get(past.inner()), e.value, bits);
        }
        past.happen(e);
    }

    private static int codeChoices(Past past) {
        return past.row().size() + (past.inTag.get(past.inner()) ? 1 : 2);
    }

    private static void encodeName(Past past, Event e, StringBuilder bits) {
        int m = past.spaces.size() + 1;
        if (past.spaces.contains(e.space)) {
            bits.append(Code.place(past.spaces.indexOf(e.space) + 1, m));
        } else {
            bits.append(Code.place(0, m)).append(Code.letters(e.space, 0));
            past.spaces.add(e.space);
            past.locals.add(new ArrayList<>());
        }
        List<String> locals = past.locals.get(past.spaces.indexOf(e.space));
        if (locals.contains(e.local)) {
            bits.append(Code.number(0));
            bits.append(Code.place(locals.indexOf(e.local), locals.size()));
        } else {
            bits.append(Code.letters(e.local, 0));
            locals.add(e.local);
        }
        past.names.add(e.name());
        if (past.spaces.size() > 6 || locals.size() > 10 || past.names.size() > 20) {
            throw new Full();
        }
    }

    private static void encodeValue(Past past, String name, String value, StringBuilder bits) {
        List<String> own = past.valuesOf(name);
        if (own.contains(value)) {
            bits.append(Code.number(0)).append(Code.place(own.indexOf(value), own.size()));
        } else if (past.all.contains(value)) {
            bits.append(Code.number(1));
            bits.append(Code.place(past.all.indexOf(value), past.all.size()));
        } else {
            bits.append(Code.letters(value, 2));
            past.toldValue(name, value);
        }
    }

    // Reading

    /** Where places and numbers come from. */
    interface Source {
        int place(int m);

        /** Those below the least can be read, but are wrong. */
        int number(int least);

        int letter();
    }

    /** From bits. */
    static final class Reading implements Source {
        private final String bits;
        int taken;

        Reading(String bits) {
            this.bits = bits;
        }

        private int bit() {
            if (taken == bits.length()) {
                throw new Wrong();
            }
            return bits.charAt(taken++) - '0';
        }

        @Override
        public int place(int m) {
            int v = 0;
            for (int power = 1; power < m; power *= 2) {
                v = 2 * v + bit();
            }
            if (v >= m) {
                throw new Wrong();
            }
            return v;
        }

        @Override
        public int number(int least) {
            int v = 0;
            int worth = 1;
            for (int group = 1; group <= 4; group++) {
                boolean more = bit() == 1;
                v += worth * (4 * bit() + 2 * bit() + bit());
                worth *= 8;
                if (!more) {
                    return v;
                }
            }
            throw new Wrong();
        }

        @Override
        public int letter() {
            return number(1);
        }
    }

    /** By chance, most of them right; the bits are those that are to be read so. */
    static final class Making implements Source {
        private final Random random;
        private final int limit;
        private final int wrongOf;
        private final int lastOf;
        final StringBuilder bits = new StringBuilder();

        /** One of so many is wrong, and one place of so many is the last one. */
        Making(Random random, int limit, int wrongOf, int lastOf) {
            this.random = random;
            this.limit = limit;
            this.wrongOf = wrongOf;
            this.lastOf = lastOf;
        }

        private void add(String more) {
            bits.append(more);
            if (bits.length() > limit) {
                throw new Wrong();
            }
        }

        @Override
        public int place(int m) {
            int v = m == 0 ? 0 : random.nextInt(lastOf) == 0 ? m - 1 : random.nextInt(m);
            if (random.nextInt(wrongOf) == 0) {
                v = (1 << Code.place(0, m).length()) - 1;
            }
            add(Code.place(v, m));
            if (v >= m) {
                throw new Wrong();
            }
            return v;
        }

        @Override
        public int number(int least) {
            return tell(least + random.nextInt(random.nextInt(4) == 0 ? 5 : 2));
        }

        @Override
        public int letter() {
            return tell(1 + random.nextInt(random.nextInt(9) == 0 ? 26 : 7));
        }

        private int tell(int right) {
            int v = random.nextInt(wrongOf) == 0 ? random.nextInt(40) : right;
            String told = Code.number(v);
            int longer = random.nextInt(wrongOf) == 0 ? random.nextInt(4) : 0;
            for (int i = 0; i < longer; i++) {
                int last = told.length() - 4;
                told = told.substring(0, last) + "1" + told.substring(last + 1) + "0000";
            }
            add(told);
            if (told.length() > 16) {
                throw new Wrong();
            }
            return v;
        }
    }

    static Event decode(Past past, Source source) {
        String kind = "open";
        String name = null;
        boolean learned = false;
        if (past.begun) {
            List<String> row = past.row();
            boolean tag = past.inTag.get(past.inner());
            int v = source.place(codeChoices(past));
            learned = v < row.size();
            if (learned) {
                String[] code = row.get(v).split(" ");
                kind = code[0];
                name = code.length == 2 ? code[1] : null;
            } else if (!tag && v == row.size()) {
                kind = "close";
                learned = true;
            } else {
                List<String> kinds = tag ? TAG_KINDS : CONTENT_KINDS;
                kind = kinds.get(source.place(kinds.size()));
            }
        }
        boolean named = kind.equals("open") || kind.equals("attribute");
        if (named && !learned) {
            name = decodeName(past, source);
        }
        if (past.begun && !learned) {
            past.learn(named ? kind + " " + name : kind);
        }
        if (kind.equals("open") && past.open.size() == 8) {
            throw new Wrong();
        }
        String value = "";
        if (kind.equals("attribute")) {
            value = decodeValue(past, name, source);
        }
        if (kind.equals("text")) {
            value = decodeValue(past, past.open.get(past.inner()), source);
        }
        int colon = named ? name.indexOf(':') : 0;
        Event e = new Event(kind, named ? name.substring(0, colon) : "",
                named ? name.substring(colon + 1) : "", value);
        past.happen(e);
        return e;
    }

    private static String decodeName(Past past, Source source) {
        int place = source.place(past.spaces.size() + 1) - 1;
        if (place < 0) {
            past.spaces.add(decodeLetters(source, source.number(0)));
            past.locals.add(new ArrayList<>());
            place = past.spaces.size() - 1;
            if (past.spaces.size() > 6) {
                throw new Wrong();
            }
        }
        List<String> locals = past.locals.get(place);
        int number = source.number(locals.isEmpty() ? 1 : 0);
        String local;
        if (number == 0) {
            local = locals.get(decodeIndex(source, locals));
        } else {
            local = decodeLetters(source, number);
            locals.add(local);
            if (locals.size() > 10) {
                throw new Wrong();
            }
        }
        past.names.add(past.spaces.get(place) + ":" + local);
        if (past.names.size() > 20) {
            throw new Wrong();
        }
        return past.spaces.get(place) + ":" + local;
    }

    private static int decodeIndex(Source source, List<String> list) {
        if (list.isEmpty()) {
            throw new Wrong();
        }
        return source.place(list.size());
    }

    private static String decodeLetters(Source source, int count) {
        StringBuilder text = new StringBuilder();
        if (count > 5) {
            throw new Wrong();
        }
        for (int i = 0; i < count; i++) {
            int letter = source.letter();
            if (letter == 0 || letter > 26) {
                throw new Wrong();
            }
            text.append((char) ('a' + letter - 1));
        }
        return text.toString();
    }

    private static String decodeValue(Past past, String name, Source source) {
        int number = source.number(past.valuesOf(name).isEmpty() ? past.all.isEmpty() ? 2 : 1 : 0);
        if (number == 0) {
            return past.valuesOf(name).get(decodeIndex(source, past.valuesOf(name)));
        }
        if (number == 1) {
            return past.all.get(decodeIndex(source, past.all));
        }
        String value = decodeLetters(source, number - 2);
        past.toldValue(name, value);
        return value;
    }

    // The face

    private List<Event> writtenEvents = new ArrayList<>();
    private List<Event> readEvents = new ArrayList<>();
    private String stream = "";
    private int taken;

    private static String letters(int text) {
        StringBuilder letters = new StringBuilder();
        for (int rest = text; rest != 0; rest /= 27) {
            if (rest < 0 || rest % 27 == 0 || letters.length() == 5) {
                throw new IllegalArgumentException();
            }
            letters.append((char) ('a' + rest % 27 - 1));
        }
        return letters.toString();
    }

    private static void needLocal(String local) {
        if (local.isEmpty()) {
            throw new IllegalArgumentException();
        }
    }

    /** The bits of a CLOSE, also where so many are written that it is refused. */
    String closeBits() {
        List<Event> events = new ArrayList<>(writtenEvents);
        events.add(new Event("close", "", "", ""));
        return encode(events, 4000).substring(written());
    }

    boolean isWhole() {
        return depth() == 0 && !writtenEvents.isEmpty();
    }

    int depth() {
        int depth = 0;
        for (Event e : writtenEvents) {
            depth += e.kind.equals("open") ? 1 : e.kind.equals("close") ? -1 : 0;
        }
        return depth;
    }

    private void write(Event e) {
        List<Event> events = new ArrayList<>(writtenEvents);
        events.add(e);
        try {
            encode(events);
        } catch (Full full) {
            throw new UnsupportedOperationException();
        }
        writtenEvents = events;
    }

    private static void need(boolean state) {
        if (!state) {
            throw new IllegalStateException();
        }
    }

    void open(int space, int local) {
        Event e = new Event("open", letters(space), letters(local), "");
        needLocal(e.local);
        need(depth() > 0 || writtenEvents.isEmpty());
        write(e);
    }

    void attribute(int space, int local, int value) {
        Event e = new Event("attribute", letters(space), letters(local), letters(value));
        needLocal(e.local);
        int before = writtenEvents.size() - 1;
        String last = before < 0 ? "" : writtenEvents.get(before).kind;
        need(last.equals("open") || last.equals("attribute"));
        write(e);
    }

    void text(int value) {
        Event e = new Event("text", "", "", letters(value));
        need(depth() > 0);
        write(e);
    }

    int close() {
        need(depth() > 0);
        write(new Event("close", "", "", ""));
        return depth();
    }

    void clear() {
        writtenEvents = new ArrayList<>();
    }

    int written() {
        return encode(writtenEvents).length();
    }

    int keep() {
        stream = encode(writtenEvents);
        return stream.length();
    }

    int push(boolean one) {
        need(stream.length() < 4000);
        stream += one ? "1" : "0";
        return stream.length();
    }

    int bit(int i) {
        if (i < 0 || i >= stream.length()) {
            throw new IndexOutOfBoundsException();
        }
        return stream.charAt(i) - '0';
    }

    void flip(int i) {
        int other = 1 - bit(i);
        stream = stream.substring(0, i) + other + stream.substring(i + 1);
    }

    void cut(int n) {
        if (n < 0 || n > stream.length()) {
            throw new IllegalArgumentException();
        }
        stream = stream.substring(0, n);
    }

    int read() {
        readEvents = new ArrayList<>();
        List<Event> events = new ArrayList<>();
        Past past = new Past();
        Reading source = new Reading(stream);
        try {
            while (!past.whole() && events.size() < 201) {
                events.add(decode(past, source));
            }
        } catch (Wrong wrong) {
            throw new IllegalArgumentException();
        } finally {
            taken = source.taken;
        }
        if (events.size() == 201) {
            throw new UnsupportedOperationException();
        }
        readEvents = events;
        return events.size();
    }

    int taken() {
        return taken;
    }

    int event(int i, int what) {
        if (i < 0 || i >= readEvents.size()) {
            throw new IndexOutOfBoundsException();
        }
        Event e = readEvents.get(i);
        return switch (what) {
            case 0 -> KINDS.indexOf(e.kind);
            case 1 -> Code.text(e.space);
            case 2 -> Code.text(e.local);
            case 3 -> Code.text(e.value);
            default -> throw new IllegalArgumentException();
        };
    }

    int again() {
        need(!readEvents.isEmpty());
        writtenEvents = new ArrayList<>();
        try {
            encode(readEvents);
        } catch (Full full) {
            throw new UnsupportedOperationException();
        }
        writtenEvents = new ArrayList<>(readEvents);
        return written();
    }
}
