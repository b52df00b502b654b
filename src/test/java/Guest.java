import java.util.Arrays;
import java.util.function.LongSupplier;

/** A machine under test, with code written as rows of bytes. */
final class Guest {
    static final int NO = 0, I = 1, J = 2, R = 3;
    static final int ENDED = 0, THROWN = 1, NO_FUEL = 2, NO_ROOM = 3;

    final GuestFrames machine;

    Guest(int words) {
        machine = new GuestFrames(words);
    }

    /** What a call answers or throws, as issues write it. */
    static String answer(LongSupplier call) {
        try {
            return "" + call.getAsLong();
        } catch (RuntimeException e) {
            return "throws." + e.getClass().getSimpleName();
        }
    }

    static int[] join(int[]... parts) {
        return Arrays.stream(parts).flatMapToInt(Arrays::stream).toArray();
    }

    /** Kinds as the digits that method() takes. */
    static int kinds(int... row) {
        int digits = 0;
        for (int i = row.length - 1; i >= 0; i--) digits = 4 * digits + row[i];
        return digits;
    }

    Guest feed(int... code) {
        for (int from = 0; from < code.length; from += 20) {
            int n = Math.min(20, code.length - from);
            int[] five = new int[5];
            for (int i = 0; i < n; i++) five[i / 4] |= (code[from + i] & 255) << 24 - 8 * (i % 4);
            machine.feed(five[0], five[1], five[2], five[3], five[4], n);
        }
        return this;
    }

    Guest handler(int from, int to, int at, int type) {
        machine.handler(from, to, at, type);
        return this;
    }

    int method(int arguments, int locals, int stack, int result, int... code) {
        feed(code);
        return machine.method(arguments, locals, stack, result);
    }

    /** A method that is good, run at once: what came of it. */
    String runs(int arguments, int locals, int result, long a, long b, int... code) {
        int number = method(arguments, locals, 12, result, code);
        return number == GuestFrames.NONE ? "not good" : outcome(number, a, b, 20000);
    }

    String outcome(int number, long a, long b, int fuel) {
        int outcome = machine.run(number, a, b, fuel);
        return outcome + " " + machine.result();
    }

    /** The same on a machine of its own with a large heap. */
    static String alone(int arguments, int locals, int result, long a, long b, int... code) {
        return new Guest(400).runs(arguments, locals, result, a, b, code);
    }

    /** Whether a lone method is good. */
    static boolean good(int arguments, int locals, int stack, int result, int... code) {
        return new Guest(400).method(arguments, locals, stack, result, code) == 0;
    }
}
