import java.util.function.Consumer;
import java.util.function.Supplier;

/** Calls that are refused, and what later calls show of the state behind them. */
final class Refused {
    static final Class<IllegalArgumentException> ARGUMENT = IllegalArgumentException.class;
    static final Class<IllegalStateException> STATE = IllegalStateException.class;
    static final Class<UnsupportedOperationException> FULL = UnsupportedOperationException.class;
    static final Class<IndexOutOfBoundsException> INDEX = IndexOutOfBoundsException.class;

    private static final int EVENTS_SHOWN = 6;
    private static final int BITS_SHOWN = 40;

    private Refused() {
    }

    /** The call is refused, and an object that never got it answers the same to later calls. */
    static void leavesAll(String what, Class<? extends RuntimeException> want,
            Supplier<LearnedCodes> made, Consumer<LearnedCodes> call) {
        LearnedCodes x = made.get();
        Check.refused(what, want, () -> call.accept(x));
        Check.due(what + ", later calls", later(x), later(made.get()));
    }

    /** Some 170 calls, by which every part of the state is seen. */
    static String later(LearnedCodes x) {
        StringBuilder shown = new StringBuilder();
        shown.append("written ").append(x.written()).append(", taken ").append(x.taken());
        showEvents(shown, x);
        shown.append(", stream ");
        showBits(shown, x, 0, BITS_SHOWN);
        shown.append(", push ").append(Check.outcome(() -> x.push(true)));
        showWriting(shown, x);
        int size = x.keep();
        shown.append(", keep ").append(size).append(' ');
        showBits(shown, x, Math.max(0, size - BITS_SHOWN), size);
        shown.append(", again ").append(Check.outcome(() -> x.again()));
        shown.append(", written ").append(x.written());
        shown.append(", read ").append(Check.outcome(() -> x.read()));
        shown.append(", taken ").append(x.taken());
        return shown.toString();
    }

    private static void showEvents(StringBuilder shown, LearnedCodes x) {
        for (int i = 0; i < EVENTS_SHOWN; i++) {
            int event = i;
            shown.append(", event ");
            for (int what = 0; what < 4; what++) {
                int part = what;
                shown.append(Check.outcome(() -> x.event(event, part))).append(' ');
            }
        }
    }

    private static void showBits(StringBuilder shown, LearnedCodes x, int from, int to) {
        for (int i = from; i < to; i++) {
            int place = i;
            shown.append(Check.outcome(() -> x.bit(place)));
        }
    }

    /** How a document goes on shows its open elements, tables and codes. */
    private static void showWriting(StringBuilder shown, LearnedCodes x) {
        showCall(shown, x, () -> x.attribute(0, 1, 1));
        showCall(shown, x, () -> x.attribute(1, 2, 0));
        showCall(shown, x, () -> x.text(1));
        showCall(shown, x, () -> x.open(0, 1));
        showCall(shown, x, () -> x.open(1, 2));
        showCall(shown, x, () -> x.text(2));
        showCall(shown, x, () -> x.close());
        showCall(shown, x, () -> x.close());
    }

    private static void showCall(StringBuilder shown, LearnedCodes x, Runnable call) {
        shown.append(", ").append(Check.outcome(Check.asCall(call)));
        shown.append(' ').append(x.written());
    }
}
