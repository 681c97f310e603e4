/** What read() answers to what is written and bits behind it, and how many it takes. */
final class Reads {
    private Reads() {
    }

    static void whole(String what, LearnedCodes x, int events, String... more) {
        int bits = x.keep() + Code.join(more).length();
        Code.push(x, more);
        Check.due(what, Check.outcome(() -> x.read()), events);
        Check.due(what + ": taken", x.taken(), bits);
    }

    /** Wrong as soon as the last one of the bits is taken, whether others follow or not. */
    static void wrong(String what, LearnedCodes x, String... more) {
        int bits = x.keep() + Code.join(more).length();
        Code.push(x, more);
        isWrong(what, x, bits);
        Code.push(x, "0000 0000");
        isWrong(what + ", zeros behind", x, bits);
        x.cut(bits);
        Code.push(x, "1111 1111");
        isWrong(what + ", ones behind", x, bits);
    }

    static void isWrong(String what, LearnedCodes x, int taken) {
        Check.refused(what, Refused.ARGUMENT, () -> x.read());
        Check.due(what + ": taken", x.taken(), taken);
    }
}
