/**
 * Writes documents as bits and reads them: names and values that came before are told by their
 * places in tables, and what may come next by codes of grammars that learn, element by element,
 * what has come; any bits are read, or it is told where they are wrong.
 */
public final class LearnedCodes {
    private static final int OPEN = 1;
    private static final int ATTRIBUTE = 2;
    private static final int TEXT = 3;
    private static final int CLOSE = 4;

    private static final int EMPTY = 0;
    private static final int LETTER_BASE = 27;
    private static final int MOST_LETTERS = 5;

    private static final int MOST_SPACES = 6;
    private static final int MOST_LOCALS = 10;
    private static final int MOST_NAMES = 20;
    private static final int MOST_VALUES_OF_NAME = 5;
    private static final int MOST_VALUES = 20;
    private static final int MOST_CODES = 12;
    private static final int MOST_ELEMENTS = 8;

    private static final int MOST_BITS = 4000;
    private static final int LAST_START = 3800;
    private static final int MOST_EVENTS = 200;

    private static final int KIND = 0;
    private static final int SPACE = 1;
    private static final int LOCAL = 2;
    private static final int VALUE = 3;
    private static final int EVENT_PARTS = 4;

    private static final int GROUP_BITS = 3;
    private static final int GROUP_BASE = 8;
    private static final int MOST_GROUPS = 4;

    private static final int NUMBER_OF_NAME = 0;
    private static final int NUMBER_OF_ALL = 1;
    private static final int NUMBER_OF_LETTERS = 2;

    /** What is not there, or was read wrong: all that is there is told by 0 or more. */
    private static final int NONE = -1;

    /** The row of a table that has one row alone. */
    private static final int ONLY = 0;

    private final Writer writer = new Writer();
    private final Reader reader = new Reader();

    public LearnedCodes() {
        writer.begin();
    }

    public void open(int space, int local)
            throws IllegalArgumentException, IllegalStateException, UnsupportedOperationException {
        if (!isName(space, local)) {
            throw new IllegalArgumentException("that is no name");
        }
        if (writer.isWhole()) {
            throw new IllegalStateException("the document is whole");
        }
        if (!writer.writeEvent(OPEN, space, local, EMPTY)) {
            throw new UnsupportedOperationException("too many elements, names or bits");
        }
    }

    public void attribute(int space, int local, int value)
            throws IllegalArgumentException, IllegalStateException, UnsupportedOperationException {
        if (!isName(space, local) || !isText(value)) {
            throw new IllegalArgumentException("that is no name or no value");
        }
        if (!writer.takesAttributes()) {
            throw new IllegalStateException("no element is open that takes attributes");
        }
        if (!writer.writeEvent(ATTRIBUTE, space, local, value)) {
            throw new UnsupportedOperationException("too many names or bits");
        }
    }

    public void text(int value)
            throws IllegalArgumentException, IllegalStateException, UnsupportedOperationException {
        if (!isText(value)) {
            throw new IllegalArgumentException("that is no value");
        }
        if (writer.openElements() == 0) {
            throw new IllegalStateException("no element is open");
        }
        if (!writer.writeEvent(TEXT, EMPTY, EMPTY, value)) {
            throw new UnsupportedOperationException("too many bits");
        }
    }

    public int close() throws IllegalStateException, UnsupportedOperationException {
        if (writer.openElements() == 0) {
            throw new IllegalStateException("no element is open");
        }
        if (!writer.writeEvent(CLOSE, EMPTY, EMPTY, EMPTY)) {
            throw new UnsupportedOperationException("too many bits");
        }
        return writer.openElements();
    }

    public void clear() {
        writer.begin();
    }

    public int written() {
        return writer.output.size;
    }

    public int keep() {
        reader.stream.become(writer.output);
        return reader.stream.size;
    }

    public int push(boolean one) throws IllegalStateException {
        if (reader.stream.isFull()) {
            throw new IllegalStateException("the stream is full");
        }
        reader.stream.append(one ? 1 : 0, 1);
        return reader.stream.size;
    }

    public int bit(int i) throws IndexOutOfBoundsException {
        if (!reader.stream.has(i)) {
            throw new IndexOutOfBoundsException("the stream has no such bit");
        }
        return reader.stream.items[i];
    }

    public void flip(int i) throws IndexOutOfBoundsException {
        if (!reader.stream.has(i)) {
            throw new IndexOutOfBoundsException("the stream has no such bit");
        }
        reader.stream.items[i] = 1 - reader.stream.items[i];
    }

    public void cut(int n) throws IllegalArgumentException {
        if (n < 0 || n > reader.stream.size) {
            throw new IllegalArgumentException("the stream has not so many bits");
        }
        reader.stream.size = n;
    }

    public int read() throws IllegalArgumentException, UnsupportedOperationException {
        reader.begin();
        for (int count = 1; count <= MOST_EVENTS + 1; count++) {
            if (!reader.readEvent()) {
                reader.events.forget();
                throw new IllegalArgumentException("the stream is wrong");
            }
            if (reader.isWhole() && count <= MOST_EVENTS) {
                return count;
            }
        }
        reader.events.forget();
        throw new UnsupportedOperationException("the document has too many events");
    }

    public int taken() {
        return reader.taken;
    }

    public int event(int i, int what) throws IndexOutOfBoundsException, IllegalArgumentException {
        if (i < 0 || i >= reader.events.size) {
            throw new IndexOutOfBoundsException("there is no such event");
        }
        if (what < 0 || what >= EVENT_PARTS) {
            throw new IllegalArgumentException("an event has no such part");
        }
        return reader.events.part(i, what);
    }

    public int again() throws IllegalStateException, UnsupportedOperationException {
        if (reader.events.size == 0) {
            throw new IllegalStateException("no events were read");
        }
        Events events = reader.events;
        writer.begin();
        for (int i = 0; i < events.size; i++) {
            boolean isWritten = writer.writeEvent(events.part(i, KIND), events.part(i, SPACE),
                    events.part(i, LOCAL), events.part(i, VALUE));
            if (!isWritten) {
                writer.begin();
                throw new UnsupportedOperationException("an event can't be written");
            }
        }
        return writer.output.size;
    }

    private static boolean isText(int value) {
        int rest = value;
        for (int letter = 0; letter < MOST_LETTERS && rest > 0; letter++) {
            if (rest % LETTER_BASE == 0) {
                return false;
            }
            rest = rest / LETTER_BASE;
        }
        return rest == 0;
    }

    private static boolean isName(int space, int local) {
        return isText(space) && isText(local) && local != EMPTY;
    }

    private static int countLetters(int text) {
        int count = 0;
        int rest = text;
        while (count < MOST_LETTERS && rest > 0) {
            rest = rest / LETTER_BASE;
            count++;
        }
        return count;
    }

    /** How many bits a place of so many choices has; one of no choices has none, too. */
    private static int placeBits(int choices) {
        int bits = 0;
        while (bits < 30 && (1 << bits) < choices) {
            bits++;
        }
        return bits;
    }

    private static boolean isNamed(int kind) {
        return kind == OPEN || kind == ATTRIBUTE;
    }

    /** A code as one number, so that a row of numbers can hold it; TEXT and CLOSE have name 0. */
    private static int codeOf(int kind, int name) {
        return name * 8 + kind;
    }

    private static int kindOf(int code) {
        return code % 8;
    }

    private static int nameOf(int code) {
        return code / 8;
    }

    /** A row of bits. */
    private static final class Bits {
        final int[] items = new int[MOST_BITS];
        int size;

        boolean isFull() {
            return size >= items.length;
        }

        boolean has(int i) {
            return i >= 0 && i < size && i < items.length;
        }

        void append(int value, int width) {
            for (int i = width - 1; i >= 0 && size < items.length; i--) {
                items[size] = (value >> i) & 1;
                size++;
            }
        }

        void become(Bits other) {
            size = 0;
            for (int i = 0; i < other.size && i < items.length; i++) {
                items[i] = other.items[i];
                size++;
            }
        }
    }

    /** Rows of numbers with the same room each; made once and emptied for each document. */
    private static final class Rows {
        private final int[][] items;
        private final int[] sizes;
        private final int room;

        Rows(int rows, int room) {
            this.items = new int[rows][room];
            this.sizes = new int[rows];
            this.room = room;
        }

        void forget() {
            for (int row = 0; row < sizes.length; row++) {
                sizes[row] = 0;
            }
        }

        int count(int row) {
            return row >= 0 && row < sizes.length ? sizes[row] : 0;
        }

        boolean isFull(int row) {
            return count(row) >= room;
        }

        int get(int row, int place) {
            return place >= 0 && place < count(row) ? items[row][place] : NONE;
        }

        /** The first place of the item in the row. */
        int find(int row, int item) {
            int count = count(row);
            for (int place = 0; place < count; place++) {
                if (items[row][place] == item) {
                    return place;
                }
            }
            return NONE;
        }

        /** A full row stays as it is. */
        void addLast(int row, int item) {
            if (row >= 0 && row < sizes.length && sizes[row] < room) {
                items[row][sizes[row]] = item;
                sizes[row]++;
            }
        }

        /** A full row stays as it is. */
        void addFirst(int row, int item) {
            if (row >= 0 && row < sizes.length && sizes[row] < room) {
                for (int place = sizes[row]; place > 0; place--) {
                    items[row][place] = items[row][place - 1];
                }
                items[row][0] = item;
                sizes[row]++;
            }
        }
    }

    /** The names and values that came in a document. */
    private static final class Tables {
        final Rows spaces = new Rows(1, MOST_SPACES);
        final Rows locals = new Rows(MOST_SPACES, MOST_LOCALS);
        final Rows values = new Rows(MOST_NAMES, MOST_VALUES_OF_NAME);
        final Rows allValues = new Rows(1, MOST_VALUES);
        private final Rows nameSpaces = new Rows(1, MOST_NAMES);
        private final Rows nameLocals = new Rows(1, MOST_NAMES);

        void begin() {
            spaces.forget();
            spaces.addLast(ONLY, EMPTY);
            locals.forget();
            values.forget();
            allValues.forget();
            nameSpaces.forget();
            nameLocals.forget();
        }

        int spaceOf(int name) {
            return nameSpaces.get(ONLY, name);
        }

        int localOf(int name) {
            return nameLocals.get(ONLY, name);
        }

        int findName(int space, int local) {
            int count = nameSpaces.count(ONLY);
            for (int name = 0; name < count; name++) {
                if (nameSpaces.get(ONLY, name) == space && nameLocals.get(ONLY, name) == local) {
                    return name;
                }
            }
            return NONE;
        }

        /** The place of the space that comes last now, NONE if there is no room. */
        int addSpace(int space) {
            if (spaces.isFull(ONLY)) {
                return NONE;
            }
            spaces.addLast(ONLY, space);
            return spaces.count(ONLY) - 1;
        }

        /** The place of the name, which is added if it is new; NONE if there is no room. */
        int findOrAddName(int space, int local) {
            int known = findName(space, local);
            if (known != NONE || nameSpaces.isFull(ONLY)) {
                return known;
            }
            nameSpaces.addLast(ONLY, space);
            nameLocals.addLast(ONLY, local);
            return nameSpaces.count(ONLY) - 1;
        }

        /** For a writer, who tells a space by its first place: there, a new name is a new local. */
        boolean hasRoomForName(int space, int local) {
            if (findName(space, local) != NONE) {
                return true;
            }
            if (nameSpaces.isFull(ONLY)) {
                return false;
            }
            int place = spaces.find(ONLY, space);
            return place == NONE ? !spaces.isFull(ONLY) : !locals.isFull(place);
        }

        void addValue(int name, int value) {
            if (value != EMPTY) {
                values.addLast(name, value);
                allValues.addLast(ONLY, value);
            }
        }
    }

    /** The elements that are open, and the codes that each name has learned. */
    private static final class Grammars {
        private final Rows tags = new Rows(MOST_NAMES, MOST_CODES);
        private final Rows contents = new Rows(MOST_NAMES, MOST_CODES);
        private final int[] names = new int[MOST_ELEMENTS];
        private final boolean[] filled = new boolean[MOST_ELEMENTS];
        private int depth;
        private boolean begun;

        void begin() {
            tags.forget();
            contents.forget();
            depth = 0;
            begun = false;
        }

        int openElements() {
            return depth;
        }

        boolean hasBegun() {
            return begun;
        }

        boolean isWhole() {
            return begun && depth == 0;
        }

        boolean isDeepest() {
            return depth >= MOST_ELEMENTS;
        }

        /** The name of the innermost element. */
        int name() {
            return depth > 0 && depth <= names.length ? names[depth - 1] : NONE;
        }

        /** Neither a text nor an element has come in the innermost element. */
        boolean isInTag() {
            return depth > 0 && depth <= filled.length && !filled[depth - 1];
        }

        /** A text or an element has come in the innermost element. */
        void fill() {
            if (depth > 0 && depth <= filled.length) {
                filled[depth - 1] = true;
            }
        }

        void enter(int name) {
            fill();
            begun = true;
            if (depth < names.length && depth < filled.length) {
                names[depth] = name;
                filled[depth] = false;
                depth++;
            }
        }

        void leave() {
            if (depth > 0) {
                depth--;
            }
        }

        int learned() {
            return isInTag() ? tags.count(name()) : contents.count(name());
        }

        /** Of how many the first place of a code is; in CONTENT one of them is for CLOSE. */
        int choices() {
            return isInTag() ? learned() + 1 : learned() + 2;
        }

        int codeAt(int place) {
            return isInTag() ? tags.get(name(), place) : contents.get(name(), place);
        }

        int findCode(int code) {
            return isInTag() ? tags.find(name(), code) : contents.find(name(), code);
        }

        void learn(int code) {
            if (findCode(code) != NONE) {
                return;
            }
            if (isInTag()) {
                tags.addFirst(name(), code);
            } else {
                contents.addFirst(name(), code);
            }
        }
    }

    /** The events that were read; one more than the most is read at times, but never asked for. */
    private static final class Events {
        private final int[][] parts = new int[EVENT_PARTS][MOST_EVENTS];
        int size;

        void forget() {
            size = 0;
        }

        void add(int kind, int space, int local, int value) {
            if (size < MOST_EVENTS) {
                parts[KIND][size] = kind;
                parts[SPACE][size] = space;
                parts[LOCAL][size] = local;
                parts[VALUE][size] = value;
                size++;
            }
        }

        int part(int i, int what) {
            boolean there = i >= 0 && i < size && what >= 0 && what < EVENT_PARTS;
            return there ? parts[what][i] : NONE;
        }
    }

    /** Writes events as bits; what can't be written leaves all as it was. */
    private static final class Writer {
        final Bits output = new Bits();
        private final Tables tables = new Tables();
        private final Grammars grammars = new Grammars();

        void begin() {
            output.size = 0;
            tables.begin();
            grammars.begin();
        }

        boolean isWhole() {
            return grammars.isWhole();
        }

        boolean takesAttributes() {
            return grammars.isInTag();
        }

        int openElements() {
            return grammars.openElements();
        }

        boolean writeEvent(int kind, int space, int local, int value) {
            if (!hasRoomFor(kind, space, local)) {
                return false;
            }
            switch (kind) {
                case OPEN:
                    // the first one has no code: nothing else may come there
                    grammars.enter(grammars.hasBegun()
                            ? tellNamed(OPEN, space, local) : tellName(space, local));
                    break;
                case ATTRIBUTE:
                    tellValue(tellNamed(ATTRIBUTE, space, local), value);
                    break;
                case TEXT:
                    tellNameless(TEXT);
                    grammars.fill();
                    tellValue(grammars.name(), value);
                    break;
                default:
                    tellClose();
                    grammars.leave();
                    break;
            }
            return true;
        }

        /** The bits behind LAST_START are more than any one event takes. */
        private boolean hasRoomFor(int kind, int space, int local) {
            if (output.size > LAST_START || kind == OPEN && grammars.isDeepest()) {
                return false;
            }
            return !isNamed(kind) || tables.hasRoomForName(space, local);
        }

        /** CONTENT has a place of its own for CLOSE, and never learns it. */
        private void tellClose() {
            if (grammars.isInTag()) {
                tellNameless(CLOSE);
            } else {
                tellPlace(grammars.learned(), grammars.choices());
            }
        }

        /** The code of an OPEN or ATTRIBUTE, and its name if the code does not tell it. */
        private int tellNamed(int kind, int space, int local) {
            int known = tables.findName(space, local);
            int place = known == NONE ? NONE : grammars.findCode(codeOf(kind, known));
            if (place != NONE) {
                tellPlace(place, grammars.choices());
                return known;
            }
            tellKind(kind);
            int name = tellName(space, local);
            grammars.learn(codeOf(kind, name));
            return name;
        }

        private void tellNameless(int kind) {
            int code = codeOf(kind, 0);
            int place = grammars.findCode(code);
            if (place != NONE) {
                tellPlace(place, grammars.choices());
                return;
            }
            tellKind(kind);
            grammars.learn(code);
        }

        private void tellKind(int kind) {
            tellPlace(grammars.choices() - 1, grammars.choices());
            if (!grammars.isInTag()) {
                tellPlace(kind == OPEN ? 0 : 1, 2);
                return;
            }
            switch (kind) {
                case ATTRIBUTE:
                    tellPlace(1, 4);
                    break;
                case OPEN:
                    tellPlace(2, 4);
                    break;
                case TEXT:
                    tellPlace(3, 4);
                    break;
                default:
                    tellPlace(0, 4);
                    break;
            }
        }

        private int tellName(int space, int local) {
            tellLocal(tellSpace(space), local);
            return tables.findOrAddName(space, local);
        }

        private int tellSpace(int space) {
            int count = tables.spaces.count(ONLY);
            int place = tables.spaces.find(ONLY, space);
            if (place != NONE) {
                tellPlace(place + 1, count + 1);
                return place;
            }
            tellPlace(0, count + 1);
            tellNumber(countLetters(space));
            tellLetters(space);
            return tables.addSpace(space);
        }

        private void tellLocal(int spacePlace, int local) {
            int place = tables.locals.find(spacePlace, local);
            if (place != NONE) {
                tellNumber(0);
                tellPlace(place, tables.locals.count(spacePlace));
                return;
            }
            tellNumber(countLetters(local));
            tellLetters(local);
            tables.locals.addLast(spacePlace, local);
        }

        private void tellValue(int name, int value) {
            int place = tables.values.find(name, value);
            if (place != NONE) {
                tellNumber(NUMBER_OF_NAME);
                tellPlace(place, tables.values.count(name));
                return;
            }
            place = tables.allValues.find(ONLY, value);
            if (place != NONE) {
                tellNumber(NUMBER_OF_ALL);
                tellPlace(place, tables.allValues.count(ONLY));
                return;
            }
            tellNumber(countLetters(value) + NUMBER_OF_LETTERS);
            tellLetters(value);
            tables.addValue(name, value);
        }

        private void tellLetters(int text) {
            int rest = text;
            for (int letter = 0; letter < MOST_LETTERS && rest > 0; letter++) {
                tellNumber(rest % LETTER_BASE);
                rest = rest / LETTER_BASE;
            }
        }

        private void tellNumber(int number) {
            int rest = number;
            for (int group = 1; group < MOST_GROUPS && rest >= GROUP_BASE; group++) {
                output.append(GROUP_BASE + rest % GROUP_BASE, 1 + GROUP_BITS);
                rest = rest / GROUP_BASE;
            }
            output.append(rest, 1 + GROUP_BITS);
        }

        private void tellPlace(int place, int choices) {
            output.append(place, placeBits(choices));
        }
    }

    /** Reads events from bits; each step answers NONE, or false, as soon as the bits are wrong. */
    private static final class Reader {
        final Bits stream = new Bits();
        final Events events = new Events();
        private final Tables tables = new Tables();
        private final Grammars grammars = new Grammars();
        int taken;

        void begin() {
            taken = 0;
            events.forget();
            tables.begin();
            grammars.begin();
        }

        boolean isWhole() {
            return grammars.isWhole();
        }

        boolean readEvent() {
            int code = grammars.hasBegun() ? takeCode() : takeFirst();
            if (code == NONE) {
                return false;
            }
            switch (kindOf(code)) {
                case OPEN:
                    return finishOpen(nameOf(code));
                case ATTRIBUTE:
                    return finishAttribute(nameOf(code));
                case TEXT:
                    return finishText();
                default:
                    grammars.leave();
                    events.add(CLOSE, EMPTY, EMPTY, EMPTY);
                    return true;
            }
        }

        private boolean finishOpen(int name) {
            if (grammars.isDeepest()) {
                return false;
            }
            grammars.enter(name);
            events.add(OPEN, tables.spaceOf(name), tables.localOf(name), EMPTY);
            return true;
        }

        private boolean finishAttribute(int name) {
            int value = takeValue(name);
            if (value == NONE) {
                return false;
            }
            events.add(ATTRIBUTE, tables.spaceOf(name), tables.localOf(name), value);
            return true;
        }

        private boolean finishText() {
            grammars.fill();
            int value = takeValue(grammars.name());
            if (value == NONE) {
                return false;
            }
            events.add(TEXT, EMPTY, EMPTY, value);
            return true;
        }

        private int takeFirst() {
            int name = takeName();
            return name == NONE ? NONE : codeOf(OPEN, name);
        }

        private int takeCode() {
            int place = takePlace(grammars.choices());
            if (place == NONE || place < grammars.learned()) {
                return grammars.codeAt(place);
            }
            if (!grammars.isInTag() && place == grammars.learned()) {
                return codeOf(CLOSE, 0);
            }
            int kind = grammars.isInTag() ? takeTagKind() : takeContentKind();
            int name = isNamed(kind) ? takeName() : 0;
            if (kind == NONE || name == NONE) {
                return NONE;
            }
            grammars.learn(codeOf(kind, name));
            return codeOf(kind, name);
        }

        private int takeTagKind() {
            switch (takePlace(4)) {
                case 0:
                    return CLOSE;
                case 1:
                    return ATTRIBUTE;
                case 2:
                    return OPEN;
                case 3:
                    return TEXT;
                default:
                    return NONE;
            }
        }

        private int takeContentKind() {
            switch (takePlace(2)) {
                case 0:
                    return OPEN;
                case 1:
                    return TEXT;
                default:
                    return NONE;
            }
        }

        private int takeName() {
            int spacePlace = takeSpace();
            if (spacePlace == NONE) {
                return NONE;
            }
            int local = takeLocal(spacePlace);
            if (local == NONE) {
                return NONE;
            }
            return tables.findOrAddName(tables.spaces.get(ONLY, spacePlace), local);
        }

        /** A place, not a text: a space that is there twice has two tables of local parts. */
        private int takeSpace() {
            int place = takePlace(tables.spaces.count(ONLY) + 1);
            if (place != 0) {
                return place == NONE ? NONE : place - 1;
            }
            int space = takeLetters(takeNumber());
            return space == NONE ? NONE : tables.addSpace(space);
        }

        private int takeLocal(int spacePlace) {
            int number = takeNumber();
            if (number == 0) {
                return takeFrom(tables.locals, spacePlace);
            }
            int local = takeLetters(number);
            if (local == NONE || tables.locals.isFull(spacePlace)) {
                return NONE;
            }
            tables.locals.addLast(spacePlace, local);
            return local;
        }

        private int takeValue(int name) {
            int number = takeNumber();
            if (number == NONE) {
                return NONE;
            }
            if (number == NUMBER_OF_NAME) {
                return takeFrom(tables.values, name);
            }
            if (number == NUMBER_OF_ALL) {
                return takeFrom(tables.allValues, ONLY);
            }
            int value = takeLetters(number - NUMBER_OF_LETTERS);
            if (value != NONE) {
                tables.addValue(name, value);
            }
            return value;
        }

        private int takeFrom(Rows rows, int row) {
            return rows.get(row, takePlace(rows.count(row)));
        }

        private int takeLetters(int count) {
            if (count < 0 || count > MOST_LETTERS) {
                return NONE;
            }
            int text = EMPTY;
            int worth = 1;
            for (int i = 0; i < count; i++) {
                int letter = takeNumber();
                if (letter < 1 || letter >= LETTER_BASE) {
                    return NONE;
                }
                text = text + letter * worth;
                worth = worth * LETTER_BASE;
            }
            return text;
        }

        private int takeNumber() {
            int number = 0;
            int worth = 1;
            for (int group = 0; group < MOST_GROUPS; group++) {
                int told = takeBits(1 + GROUP_BITS);
                if (told == NONE) {
                    return NONE;
                }
                number = number + worth * (told % GROUP_BASE);
                worth = worth * GROUP_BASE;
                if (told < GROUP_BASE) {
                    return number;
                }
            }
            return NONE;
        }

        private int takePlace(int choices) {
            int place = takeBits(placeBits(choices));
            return place < choices ? place : NONE;
        }

        /** Bits before one that is missing are taken, too. */
        private int takeBits(int count) {
            int value = 0;
            for (int i = 0; i < count; i++) {
                if (taken >= stream.size || taken >= stream.items.length) {
                    return NONE;
                }
                value = value * 2 + stream.items[taken];
                taken++;
            }
            return value;
        }
    }
}
