import java.util.Map;
import java.util.Random;
import java.util.TreeMap;

/** All promises: runs of calls by chance (the same each time), with the answers of the model. */
public final class ModelTest {
    private static final int MOST_CALLS = 512;

    private final Random random;
    private final LearnedCodes x = new LearnedCodes();
    private final Model model = new Model();
    private final String run;
    private int calls = 0;

    /** How often each call had which outcome: what never came was not tested. */
    private static final Map<String, Integer> OUTCOMES = new TreeMap<>();

    private ModelTest(String run, int seed) {
        this.run = run + " " + seed;
        // near seeds begin alike, so they are brought far from each other
        this.random = new Random(seed * 0x9E3779B97F4A7C15L + run.length());
    }

    public static void main(String[] args) {
        for (int seed = 1; seed <= 150; seed++) {
            new ModelTest("small names", seed).callsByChance(3, 40);
            new ModelTest("many names", seed).callsByChance(12, 60);
            new ModelTest("long texts", seed).longDocument();
            new ModelTest("deep documents", seed).callsByChance(2, 500);
        }
        for (int seed = 1; seed <= 1500; seed++) {
            new ModelTest("made streams", seed).madeStream();
            new ModelTest("streams by chance", seed).streamByChance();
        }
        for (String outcome : new String[] {"open 0", "open throws.IllegalArgumentException",
            "open throws.IllegalStateException", "open throws.UnsupportedOperationException",
            "attribute 0", "attribute throws.IllegalArgumentException",
            "attribute throws.IllegalStateException",
            "attribute throws.UnsupportedOperationException",
            "text 0", "text throws.IllegalArgumentException", "text throws.IllegalStateException",
            "text throws.UnsupportedOperationException",
            "close 0", "close throws.IllegalStateException",
            "close throws.UnsupportedOperationException",
            "read 0", "read throws.IllegalArgumentException",
            "read throws.UnsupportedOperationException",
            "again 0", "again throws.IllegalStateException",
            "again throws.UnsupportedOperationException"}) {
            Check.due("the runs have " + outcome, OUTCOMES.containsKey(outcome), true);
        }
        if (args.length > 0) {
            System.out.println(OUTCOMES);
        }
        Check.end();
    }

    private void both(String call, Check.Call mine, Check.Call due) {
        if (calls >= MOST_CALLS) {
            return;
        }
        calls++;
        String want = Check.outcome(due);
        Check.due(run + ", call " + calls + ", " + call, Check.outcome(mine), want);
        String kind = call.split("\\(")[0] + (want.startsWith("throws") ? " " + want : " 0");
        OUTCOMES.merge(kind, 1, Integer::sum);
    }

    private void open(int space, int local) {
        both("open(" + space + ", " + local + ")", Check.asCall(() -> x.open(space, local)),
                Check.asCall(() -> model.open(space, local)));
    }

    private void attribute(int space, int local, int value) {
        both("attribute(" + space + ", " + local + ", " + value + ")",
                Check.asCall(() -> x.attribute(space, local, value)),
                Check.asCall(() -> model.attribute(space, local, value)));
    }

    private void text(int value) {
        both("text(" + value + ")", Check.asCall(() -> x.text(value)),
                Check.asCall(() -> model.text(value)));
    }

    private void flip(int i) {
        both("flip(" + i + ")", Check.asCall(() -> x.flip(i)), Check.asCall(() -> model.flip(i)));
    }

    private void cut(int n) {
        both("cut(" + n + ")", Check.asCall(() -> x.cut(n)), Check.asCall(() -> model.cut(n)));
    }

    private void push(boolean one) {
        both("push(" + one + ")", () -> x.push(one), () -> model.push(one));
    }

    private void bit(int i) {
        both("bit(" + i + ")", () -> x.bit(i), () -> model.bit(i));
    }

    private void event(int i, int what) {
        both("event(" + i + ", " + what + ")", () -> x.event(i, what), () -> model.event(i, what));
    }

    private void close() {
        both("close()", () -> x.close(), () -> model.close());
    }

    private void clear() {
        both("clear()", Check.asCall(() -> x.clear()), Check.asCall(() -> model.clear()));
    }

    private void read() {
        both("read()", () -> x.read(), () -> model.read());
        both("taken()", () -> x.taken(), () -> model.taken());
    }

    private void again() {
        both("again()", () -> x.again(), () -> model.again());
        both("written()", () -> x.written(), () -> model.written());
    }

    private void keep() {
        both("keep()", () -> x.keep(), () -> model.keep());
    }

    private int someText(int names) {
        if (random.nextInt(60) == 0) {
            int[] edges = {-1, 27, 14348906, 14348907, 28, Integer.MAX_VALUE, Integer.MIN_VALUE};
            return edges[random.nextInt(edges.length)];
        }
        return random.nextInt(names + 1);
    }

    private void callsByChance(int names, int endOf) {
        boolean deep = endOf > 100;
        while (calls < MOST_CALLS) {
            int which = random.nextInt(100);
            if (model.isWhole() && random.nextInt(4) == 0) {
                keep();
                read();
                clear();
            }
            if (which < (deep ? 30 : 20)) {
                open(someText(names / 2), someText(names));
            } else if (which < 42) {
                attribute(someText(names / 2), someText(names), someText(3 * names));
            } else if (which < 55) {
                text(someText(4 * names));
            } else if (which < 68) {
                if (model.depth() != 1 || random.nextInt(endOf) < 10) {
                    close();
                }
            } else if (which < 86) {
                event(random.nextInt(12) - 1, random.nextInt(5) - random.nextInt(2));
            } else if (which < 90) {
                flip(random.nextInt(100) - 1);
            } else if (which < 92) {
                push(random.nextBoolean());
            } else if (which < 94) {
                bit(random.nextInt(100) - 1);
            } else if (random.nextInt(endOf) == 0) {
                closeAll();
                clear();
            } else if (which < 96) {
                keep();
            } else if (which < 97) {
                cut(random.nextInt(120) - 1);
            } else if (which < 98) {
                again();
            } else {
                read();
            }
        }
    }

    private void closeAll() {
        for (int i = 0; i < 9; i++) {
            close();
        }
        keep();
        read();
        again();
        keep();
        for (int i = 0; i < 30; i++) {
            event(random.nextInt(40), random.nextInt(4));
            bit(random.nextInt(200));
        }
    }

    private int longText() {
        int text = 0;
        for (int letter = random.nextInt(6) == 0 ? random.nextInt(6) : 5; letter > 0; letter--) {
            text = text * 27 + 8 + random.nextInt(19);
        }
        return text;
    }

    /** Comes near the limits of bits and of events. */
    private void longDocument() {
        boolean manyEvents = random.nextBoolean();
        open(0, 1);
        int events = manyEvents ? 190 + random.nextInt(16) : 110;
        for (int i = 0; i < events; i++) {
            int which = random.nextInt(manyEvents ? 12 : 9);
            if (which == 0) {
                open(random.nextInt(3), 1 + random.nextInt(5));
                attribute(random.nextInt(3), 1 + random.nextInt(5), longText());
                close();
            } else {
                text(manyEvents ? random.nextInt(3) : longText());
            }
        }
        keep();
        read();
        if (random.nextBoolean()) {
            pushAll(model.closeBits());
            read();
            again();
        }
        close();
        keep();
        read();
        again();
        keep();
        cut(model.written() - 1);
        read();
        while (calls < MOST_CALLS) {
            flip(random.nextInt(Math.max(1, model.written())));
            read();
            again();
            event(random.nextInt(90), random.nextInt(4));
        }
    }

    private void pushAll(String bits) {
        for (char bit : bits.toCharArray()) {
            push(bit == '1');
        }
    }

    private void madeStream() {
        Model.Making source = new Model.Making(random, 400,
                10 + random.nextInt(1000), 1 + random.nextInt(4));
        Model.Past past = new Model.Past();
        try {
            for (int i = 0; i < 201 && !past.whole(); i++) {
                Model.decode(past, source);
            }
        } catch (Model.Wrong wrong) {
            // the stream ends where it is wrong
        }
        pushAll(source.bits.toString());
        read();
        for (int i = 0; i < 20; i++) {
            event(random.nextInt(30), random.nextInt(4));
        }
        again();
        keep();
        read();
        flip(random.nextInt(200));
        read();
        again();
    }

    private void streamByChance() {
        pushAll("100010001");
        int oneOf = 2 + random.nextInt(3);
        for (int i = 0; i < 300; i++) {
            push(random.nextInt(oneOf) == 0);
        }
        for (int i = 0; i < 15; i++) {
            read();
            event(random.nextInt(8), random.nextInt(4));
            again();
            flip(random.nextInt(40));
        }
    }
}
