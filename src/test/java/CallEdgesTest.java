import java.util.ArrayList;
import java.util.List;
import java.util.function.LongSupplier;

/**
 * The edges that the document names for calls (the public face and promises 1 to 5, 8 and 9): each sentence that names
 * one stands, in its own words, above the test that would fail without it.
 */
public final class CallEdgesTest {
    private static final int NO = 0, I = 1, J = 2, R = 3;
    private static final int LEAST = Integer.MIN_VALUE, MOST = Integer.MAX_VALUE;
    private static final int RETURN = 177;
    private static final String BOUNDS = "throws.IndexOutOfBoundsException";
    private static final String ARGUMENT = "throws.IllegalArgumentException";
    private static final String FULL = "throws.UnsupportedOperationException";
    private static final Check CHECK = new Check("CallEdgesTest");

    public static void main(String[] args) {
        wordsAreTheNearest();
        aNewObject();
        feedTakesTheFirstBytes();
        feedOfTooFewOrTooMany();
        feedOfAFullTape();
        typeBelowNoParent();
        typeOfTooFewOrTooManyFields();
        typeHeedsNoOtherBits();
        typeOfAllThirty();
        handlerOfNoRange();
        handlerBeyondTheMost();
        handlerOfNoClass();
        handlerOfAllEight();
        handlersAreForTheNextMethod();
        methodWithoutCode();
        methodEmptiesTapeAndHandlers();
        methodOfNoSuchArguments();
        methodOfTooFewOrTooManyLocals();
        methodOfNoSuchStackOrResult();
        methodOfAllTwenty();
        argumentsUpToTheFirstZero();
        runOfNoMethod();
        runOfNoSuchFuel();
        resultAndStepsBeforeAnyRun();
        countOfNoSuchWhat();
        whatIsNamedFirstIsThrown();
        whatThrowsChangesNothing();
        theLastOfFiveHundredAndTwelveCalls();
        CHECK.end();
    }

    private static void due(String what, LongSupplier call, String want) {
        CHECK.same(what, Guest.answer(call), want);
    }

    private static void due(String what, LongSupplier call, long want) {
        due(what, call, "" + want);
    }

    private static void feedZeros(GuestFrames x, int bytes) {
        for (int rest = bytes; rest > 0; rest -= 20) x.feed(0, 0, 0, 0, 0, Math.min(20, rest));
    }

    /** "A heap of so many words (16 .. 400, the nearest)" */
    private static void wordsAreTheNearest() {
        int[][] rows = {{LEAST, 16}, {-1, 16}, {0, 16}, {15, 16}, {16, 16}, {17, 17}, {18, 18}, {398, 398}, {399, 399},
            {400, 400}, {401, 400}, {402, 400}, {MOST, 400}};
        for (int[] row : rows) {
            Guest guest = new Guest(row[0]);
            guest.method(I, 1, 1, R, 21, 0, 188, 8, 176);
            int bytes = (row[1] - 2) * 4;
            CHECK.same("bytes that fill a heap of " + row[0], guest.outcome(0, bytes, 0, 9), "0 1");
            CHECK.due("their words", guest.machine.count(3), row[1]);
            CHECK.same("a byte more than fills a heap of " + row[0], guest.outcome(0, bytes + 1, 0, 9), "3 0");
        }
    }

    /** "classes 0 to 6, no methods, an empty tape" */
    private static void aNewObject() {
        GuestFrames x = new GuestFrames(40);
        due("classes of a new object", () -> x.count(0), 7);
        due("methods of a new object", () -> x.count(1), 0);
        due("bytes of a new object", () -> x.count(2), 0);
        due("words of a new object", () -> x.count(3), 0);
        due("most words of a new object", () -> x.count(4), 0);
        due("a run of a new object", () -> x.run(0, 0, 0, 0), BOUNDS);
        due("a handler for class 7", () -> x.handler(0, 1, 0, 7), ARGUMENT);
        due("a handler for class 6", () -> x.handler(0, 1, 0, 6), 1);
        due("a class below 7", () -> x.type(7, 0, 0), BOUNDS);
        due("a class below 6", () -> x.type(6, 0, 0), 7);
        due("a method of an empty tape", () -> x.method(0, 0, 0, 0), -1);
        due("a first byte", () -> x.feed(RETURN << 24, 0, 0, 0, 0, 1), 1);
        due("a first method", () -> x.method(0, 0, 0, 0), 0);
    }

    /** "The first n of 20 bytes come onto the tape, the highest of each number first: how many it has." */
    private static void feedTakesTheFirstBytes() {
        for (int n = 1; n <= 20; n++) {
            // An end as the n-th byte, nothing before it, and behind it what is no instruction.
            int[] five = new int[5];
            for (int i = 0; i < 20; i++) five[i / 4] |= (i < n - 1 ? 0 : i == n - 1 ? RETURN : 255) << 24 - 8 * (i % 4);
            GuestFrames x = new GuestFrames(16);
            int bytes = n;
            due("feed of " + n, () -> x.feed(five[0], five[1], five[2], five[3], five[4], bytes), n);
            due("bytes then", () -> x.count(2), n);
            due("its method", () -> x.method(0, 0, 0, 0), 0);
            due("its run", () -> x.run(0, 0, 0, 99), 0);
            due("its steps", () -> x.steps(), n);
        }
        for (int n = 1; n <= 20; n++) {
            GuestFrames x = new GuestFrames(16);
            int bytes = n;
            due("feed of " + n + " before another", () -> x.feed(0, 0, 0, 0, 0, bytes), n);
            due("the other", () -> x.feed(RETURN << 24, -1, -1, -1, -1, 1), n + 1);
            due("their method", () -> x.method(0, 0, 0, 0), 0);
            x.run(0, 0, 0, 99);
            due("steps of both", () -> x.steps(), n + 1);
        }
    }

    /** "IllegalArgumentException: n is not 1 .. 20" */
    private static void feedOfTooFewOrTooMany() {
        GuestFrames x = new GuestFrames(16);
        for (int n : new int[] {LEAST, -20, -1, 0, 21, 22, 200, MOST}) {
            due("feed of " + n, () -> x.feed(0, 0, 0, 0, 0, n), ARGUMENT);
        }
        due("no byte came", () -> x.count(2), 0);
        due("feed of 1", () -> x.feed(0, 0, 0, 0, 0, 1), 1);
        due("feed of 20", () -> x.feed(0, 0, 0, 0, 0, 20), 21);
    }

    /** "UnsupportedOperationException: there would be more than 200" */
    private static void feedOfAFullTape() {
        for (int there = 180; there <= 200; there++) {
            for (int n = 1; n <= 20; n++) {
                GuestFrames x = new GuestFrames(16);
                feedZeros(x, there);
                int bytes = n;
                due("feed of " + n + " to " + there, () -> x.feed(0, 0, 0, 0, 0, bytes), there + n > 200 ? FULL : "" + (there + n));
                due("bytes then", () -> x.count(2), there + n > 200 ? there : there + n);
            }
        }
    }

    /** "IndexOutOfBoundsException: no such parent" */
    private static void typeBelowNoParent() {
        GuestFrames x = new GuestFrames(16);
        for (int there = 7; there < 30; there++) {
            int classes = there;
            for (int parent : new int[] {LEAST, -1, there, there + 1, 255, MOST}) {
                due("a class below " + parent + " of " + there, () -> x.type(parent, 0, 0), BOUNDS);
            }
            due("a class below the last of " + there, () -> x.type(classes - 1, 0, 0), there);
        }
        for (int parent = 0; parent < 7; parent++) {
            GuestFrames y = new GuestFrames(16);
            int number = parent;
            due("a class below " + parent, () -> y.type(number, 8, 0), 7);
        }
    }

    /** "IllegalArgumentException: fields are below 0, or there would be more than 8" */
    private static void typeOfTooFewOrTooManyFields() {
        for (int first = 0; first <= 8; first++) {
            GuestFrames x = new GuestFrames(16);
            int most = 8 - first;
            x.type(0, first, 0);
            for (int fields : new int[] {LEAST, -9, -8, -1, most + 1, 9, MOST - 8, MOST}) {
                due(fields + " fields below one of " + first, () -> x.type(7, fields, 0), ARGUMENT);
            }
            due("classes as before", () -> x.count(0), 8);
            due("no fields below one of " + first, () -> x.type(7, 0, 0), 8);
            due("all fields below one of " + first, () -> x.type(8, most, 0), 9);
            due("one more than all", () -> x.type(9, 1, 0), ARGUMENT);
        }
    }

    /** "those of which are R whose bit (of the k-th of these, from 0) is 1, other bits are of no matter" */
    private static void typeHeedsNoOtherBits() {
        for (int fields = 0; fields <= 4; fields++) {
            for (int refs : new int[] {0, -1, 1, 2, 5, 10, 0x80, 0x100, LEAST, MOST, ~15, 0x50, 0xA0}) {
                Guest guest = new Guest(400);
                guest.machine.type(0, fields, refs);
                // The bits beyond are no more of matter where fields below come to stand.
                guest.machine.type(7, 4, 6);
                String want = "";
                for (int k = 0; k < fields; k++) want += (refs >> k & 1) == 1 ? 'R' : 'I';
                want += "IRRI";
                CHECK.same("fields with bits " + refs, kindsOfFields(guest, 8), want);
            }
        }
        Guest guest = new Guest(400);
        guest.machine.type(0, 8, 0x81);
        CHECK.same("the first and the eighth", kindsOfFields(guest, 7), "RIIIIIIR");
        guest.machine.type(0, 8, ~0x81);
        CHECK.same("all but the first and the eighth", kindsOfFields(guest, 8), "IRRRRRRI");
    }

    private static String kindsOfFields(Guest guest, int type) {
        String kinds = "";
        for (int k = 0; k <= 8; k++) {
            if (readsField(guest, type, k, I)) kinds += 'I';
            if (readsField(guest, type, k, R)) kinds += 'R';
        }
        return kinds;
    }

    private static boolean readsField(Guest guest, int type, int field, int kind) {
        return guest.method(0, 0, 1, kind, 1, 180, type, field, kind == I ? 172 : 176) >= 0;
    }

    /** "UnsupportedOperationException: there are 30" */
    private static void typeOfAllThirty() {
        Guest guest = new Guest(40);
        GuestFrames x = guest.machine;
        for (int number = 7; number < 30; number++) {
            int parent = number - 1;
            int due = number;
            due("class " + number, () -> x.type(parent, 0, 0), due);
        }
        due("the 31st class", () -> x.type(0, 0, 0), FULL);
        due("the 31st class below the last", () -> x.type(29, 8, -1), FULL);
        due("classes", () -> x.count(0), 30);
        due("a handler for the last", () -> x.handler(0, 2, 5, 29), 1);
        due("a handler for one beyond", () -> x.handler(0, 2, 5, 30), ARGUMENT);
        CHECK.same("an object of the last", guest.runs(0, 0, I, 0, 0, 187, 29, 193, 29, 172, 191), "0 1");
        CHECK.same("is of all above it", guest.runs(0, 0, I, 0, 0, 187, 29, 193, 6, 187, 29, 193, 28, 126, 187, 29, 193, 0,
            126, 172), "0 1");
        CHECK.same("and not of those beside it", guest.runs(0, 0, I, 0, 0, 187, 29, 193, 5, 187, 29, 193, 1, 128, 172), "0 0");
        CHECK.same("one of no class", guest.runs(0, 0, NO, 0, 0, 187, 30, 177), "not good");
    }

    /** "IllegalArgumentException: from is below 0, or up to not above from, or at below 0" */
    private static void handlerOfNoRange() {
        GuestFrames x = new GuestFrames(16);
        int[][] rows = {{-1, 1, 0}, {-1, 200, 0}, {LEAST, 1, 0}, {LEAST, LEAST, 0}, {0, 0, 0}, {0, -1, 0}, {0, LEAST, 0},
            {1, 1, 0}, {1, 0, 0}, {199, 199, 0}, {200, 200, 0}, {200, 199, 0}, {200, 0, 0}, {0, 1, -1}, {0, 1, LEAST},
            {199, 200, -1}};
        for (int[] row : rows) {
            due("a handler " + row[0] + " .. " + row[1] + " at " + row[2], () -> x.handler(row[0], row[1], row[2], 0), ARGUMENT);
        }
        due("the first range", () -> x.handler(0, 1, 0, 0), 1);
        due("the last range", () -> x.handler(199, 200, 0, 0), 2);
    }

    /** "or one is beyond 200" */
    private static void handlerBeyondTheMost() {
        GuestFrames x = new GuestFrames(16);
        int[][] rows = {{0, 201, 0}, {0, MOST, 0}, {199, 201, 0}, {200, 201, 0}, {201, 202, 0}, {MOST, MOST, 0},
            {MOST - 1, MOST, 0}, {0, 1, 201}, {0, 1, MOST}, {199, 200, 201}};
        for (int[] row : rows) {
            due("a handler " + row[0] + " .. " + row[1] + " at " + row[2], () -> x.handler(row[0], row[1], row[2], 0), ARGUMENT);
        }
        due("up to 200", () -> x.handler(0, 200, 0, 0), 1);
        due("at 200", () -> x.handler(0, 1, 200, 0), 2);
        due("both", () -> x.handler(199, 200, 200, 0), 3);
    }

    /** "or there is no such class" */
    private static void handlerOfNoClass() {
        GuestFrames x = new GuestFrames(16);
        for (int type : new int[] {LEAST, -1, 7, 8, 29, 30, MOST}) {
            due("a handler for " + type, () -> x.handler(0, 1, 0, type), ARGUMENT);
        }
        for (int type = 0; type < 7; type++) {
            int number = type;
            due("a handler for " + type, () -> x.handler(0, 1, 0, number), type + 1);
        }
        x.type(0, 0, 0);
        due("a handler for 8", () -> x.handler(0, 1, 0, 8), ARGUMENT);
        due("a handler for 7", () -> x.handler(0, 1, 0, 7), 8);
    }

    /** "UnsupportedOperationException: it has 8." */
    private static void handlerOfAllEight() {
        Guest guest = new Guest(16);
        GuestFrames x = guest.machine;
        for (int i = 1; i <= 6; i++) {
            int number = i;
            due("handler " + i, () -> x.handler(0, 2, 5, number == 2 ? 1 : number), i);
        }
        due("handler 7", () -> x.handler(2, 200, 5, 0), 7);
        due("handler 8", () -> x.handler(0, 2, 2, 0), 8);
        due("a ninth", () -> x.handler(0, 1, 0, 0), FULL);
        due("a ninth of the largest", () -> x.handler(199, 200, 200, 6), FULL);
        CHECK.same("the eighth catches", guest.runs(0, 0, I, 0, 0, 1, 191, 87, 8, 172, 87, 3, 172), "0 5");
    }

    /** "A handler more for the next method: how many it has." */
    private static void handlersAreForTheNextMethod() {
        Guest guest = new Guest(16);
        due("a handler", () -> guest.machine.handler(0, 2, 2, 2), 1);
        CHECK.same("with it", guest.runs(0, 0, I, 0, 0, 1, 191, 87, 8, 172), "0 5");
        CHECK.same("the method after that", guest.runs(0, 0, I, 0, 0, 1, 191, 87, 8, 172), "1 2");
        CHECK.same("the first once more", guest.outcome(0, 0, 0, 9), "0 5");
        due("the next handler is a first", () -> guest.machine.handler(0, 2, 2, 2), 1);
    }

    /** "NONE if it is not good (or has no code)", and "CODE (1 to 200 bytes)" */
    private static void methodWithoutCode() {
        Guest guest = new Guest(16);
        GuestFrames x = guest.machine;
        due("no code", () -> x.method(0, 0, 0, 0), -1);
        due("no code, with all there may be", () -> x.method(255, 16, 12, 3), -1);
        due("no method came", () -> x.count(1), 0);
        due("one byte", () -> guest.method(0, 0, 0, NO, RETURN), 0);
        due("one byte that is not good", () -> guest.method(0, 0, 0, NO, 255), -1);
        due("one method", () -> x.count(1), 1);
        feedZeros(x, 199);
        due("200 bytes", () -> guest.method(0, 0, 0, NO, RETURN), 1);
        due("their run", () -> x.run(1, 0, 0, 200), 0);
        due("their steps", () -> x.steps(), 200);
        feedZeros(x, 200);
        due("200 bytes that go beyond", () -> x.method(0, 0, 0, 0), -1);
        due("two methods", () -> x.count(1), 2);
    }

    /** "The tape (which is empty then, as handlers are, also with NONE) is a method" */
    private static void methodEmptiesTapeAndHandlers() {
        int[][] codes = {{RETURN}, {255}, {}};
        for (int[] code : codes) {
            Guest guest = new Guest(16);
            GuestFrames x = guest.machine;
            // A handler that would be bad for the next method.
            guest.handler(0, 1, 200, 0).method(0, 0, 1, NO, code);
            due("bytes behind " + code.length, () -> x.count(2), 0);
            due("a handler behind " + code.length, () -> x.handler(100, 101, 0, 0), 1);
            int methods = x.count(1);
            due("the next method", () -> guest.method(0, 0, 1, NO, RETURN), methods);
            due("bytes then", () -> x.count(2), 0);
            due("handlers then", () -> x.handler(0, 1, 0, 0), 1);
            feedZeros(x, 200);
            due("a whole tape", () -> x.count(2), 200);
        }
    }

    /** "IllegalArgumentException: arguments are below 0 or beyond 255" */
    private static void methodOfNoSuchArguments() {
        Guest guest = new Guest(16);
        GuestFrames x = guest.feed(RETURN).machine;
        for (int arguments : new int[] {LEAST, -256, -1, 256, 257, 1024, MOST}) {
            due("arguments " + arguments, () -> x.method(arguments, 16, 12, 0), ARGUMENT);
        }
        due("arguments 255", () -> x.method(255, 4, 0, 0), 0);
        due("arguments 0", () -> guest.method(0, 0, 0, NO, RETURN), 1);
    }

    /** "locals not as many as arguments .. 16" */
    private static void methodOfTooFewOrTooManyLocals() {
        int[] kinds = {0, I, Guest.kinds(J, R), Guest.kinds(R, I, J), Guest.kinds(J, J, J, J)};
        for (int arguments = 0; arguments < kinds.length; arguments++) {
            Guest guest = new Guest(16);
            GuestFrames x = guest.feed(RETURN).machine;
            int digits = kinds[arguments];
            int least = arguments;
            for (int locals : new int[] {LEAST, -1, least - 1, 17, 18, 255, MOST}) {
                due(locals + " locals for " + arguments, () -> x.method(digits, locals, 0, 0), ARGUMENT);
            }
            due("as many locals as " + arguments, () -> x.method(digits, least, 0, 0), 0);
            due("16 locals for " + arguments, () -> guest.feed(RETURN).machine.method(digits, 16, 0, 0), 1);
        }
    }

    /** "stack not 0 .. 12, result not 0 .. 3" */
    private static void methodOfNoSuchStackOrResult() {
        Guest guest = new Guest(16);
        GuestFrames x = guest.feed(RETURN).machine;
        for (int stack : new int[] {LEAST, -1, 13, 14, 255, MOST}) {
            due("stack " + stack, () -> x.method(0, 0, stack, 0), ARGUMENT);
        }
        for (int result : new int[] {LEAST, -1, 4, 5, 8, 255, MOST}) {
            due("result " + result, () -> x.method(0, 0, 0, result), ARGUMENT);
        }
        due("stack 0", () -> x.method(0, 0, 0, 0), 0);
        due("stack 12", () -> guest.method(0, 0, 12, NO, RETURN), 1);
        due("result 3", () -> guest.method(0, 0, 1, R, 1, 176), 2);
    }

    /** "UnsupportedOperationException: there are 20.", and "METHODS 0 .. 19" */
    private static void methodOfAllTwenty() {
        Guest guest = new Guest(16);
        GuestFrames x = guest.machine;
        for (int number = 0; number < 19; number++) {
            int due = number;
            due("method " + number, () -> guest.method(0, 0, 1, I, 16, due, 172), due);
        }
        due("a 20th that is not good", () -> guest.method(0, 0, 1, I, 184, 20, 172), -1);
        due("a 20th that calls the 19th", () -> guest.method(0, 0, 1, I, 184, 18, 172), 19);
        for (int number = 0; number < 19; number++) CHECK.same("run of " + number, guest.outcome(number, 0, 0, 9), "0 " + number);
        CHECK.same("run of 19", guest.outcome(19, 0, 0, 9), "0 18");
        due("a run of 20", () -> x.run(20, 0, 0, 9), BOUNDS);
        due("a 21st without code", () -> x.method(0, 0, 0, 0), FULL);
        guest.feed(255);
        due("a 21st that is not good", () -> x.method(0, 0, 0, 0), FULL);
        due("its tape stays", () -> x.count(2), 1);
        due("methods", () -> x.count(1), 20);
    }

    /** "in digits of base 4, the lowest one first, up to the first 0" */
    private static void argumentsUpToTheFirstZero() {
        for (int digits = 0; digits < 256; digits++) {
            int there = 0;
            while (there < 4 && (digits >> 2 * there & 3) != 0) there++;
            Guest guest = new Guest(16);
            int arguments = digits;
            int fewest = there;
            // Each argument is read as its kind; a local behind the first 0 has none.
            int[] code = new int[there * 4 + 1];
            for (int i = 0; i < there; i++) {
                int kind = digits >> 2 * i & 3;
                code[4 * i] = kind == I ? 21 : kind == J ? 22 : 25;
                code[4 * i + 1] = i;
                code[4 * i + 2] = kind == J ? 88 : 87;
            }
            code[4 * there] = RETURN;
            if (there > 0) {
                guest.feed(code);
                due("too few locals for " + digits, () -> guest.machine.method(arguments, fewest - 1, 1, 0), ARGUMENT);
                due("enough locals for " + digits, () -> guest.machine.method(arguments, fewest, 1, 0), 0);
            } else {
                due("no locals for " + digits, () -> guest.method(arguments, 0, 1, NO, code), 0);
            }
            // What stands behind the first 0 is no argument either.
            for (int local = there; local < 5; local++) {
                int behind = local;
                for (int load : new int[] {21, 22, 25}) {
                    due("local " + local + " behind " + digits, () -> guest.method(arguments, 5, 1, NO, load, behind, RETURN), -1);
                }
            }
        }
    }

    /** "IndexOutOfBoundsException: there is no such method" */
    private static void runOfNoMethod() {
        Guest guest = new Guest(16);
        GuestFrames x = guest.machine;
        due("a run before any method", () -> x.run(0, 0, 0, 0), BOUNDS);
        guest.method(0, 0, 0, NO, 255);
        due("a run of what was not good", () -> x.run(0, 0, 0, 0), BOUNDS);
        for (int there = 1; there <= 20; there++) {
            guest.method(0, 0, 0, NO, RETURN);
            for (int method : new int[] {LEAST, -1, there, there + 1, MOST}) {
                due("a run of " + method + " of " + there, () -> x.run(method, 0, 0, 1), BOUNDS);
            }
            int last = there - 1;
            due("a run of the last of " + there, () -> x.run(last, 0, 0, 1), 0);
        }
    }

    /** "IllegalArgumentException: fuel is not 0 .. 20000" */
    private static void runOfNoSuchFuel() {
        Guest guest = new Guest(16);
        GuestFrames x = guest.machine;
        guest.method(0, 0, 0, NO, 167, 0, 0);
        for (int fuel : new int[] {LEAST, -20000, -1, 20001, 20002, MOST}) {
            due("fuel " + fuel, () -> x.run(0, 0, 0, fuel), ARGUMENT);
        }
        due("no run began", () -> x.steps(), 0);
        due("fuel 20000", () -> x.run(0, 0, 0, 20000), 2);
        due("its steps", () -> x.steps(), 20000);
        due("fuel 0", () -> x.run(0, 0, 0, 0), 2);
        due("its steps", () -> x.steps(), 0);
    }

    /** "of the latest run", when there was none */
    private static void resultAndStepsBeforeAnyRun() {
        Guest guest = new Guest(16);
        GuestFrames x = guest.machine;
        due("a first result", () -> x.result(), 0);
        due("first steps", () -> x.steps(), 0);
        guest.method(0, 0, 1, I, 8, 172);
        due("a refused run", () -> x.run(1, 0, 0, 9), BOUNDS);
        due("another", () -> x.run(0, 0, 0, -1), ARGUMENT);
        due("the result then", () -> x.result(), 0);
        due("steps then", () -> x.steps(), 0);
        x.run(0, 0, 0, 9);
        due("the result of a run", () -> x.result(), 5);
        due("its steps", () -> x.steps(), 2);
        guest.method(0, 0, 1, I, 3, 172);
        x.type(0, 0, 0);
        x.handler(0, 1, 0, 0);
        due("the result stays", () -> x.result(), 5);
        due("steps stay", () -> x.steps(), 2);
    }

    /** "IndexOutOfBoundsException: there is no such what." */
    private static void countOfNoSuchWhat() {
        GuestFrames x = new GuestFrames(16);
        for (int what : new int[] {LEAST, -2, -1, 5, 6, MOST}) {
            due("count of " + what, () -> x.count(what), BOUNDS);
        }
        for (int what = 0; what <= 4; what++) {
            int asked = what;
            due("count of " + what, () -> x.count(asked), what == 0 ? 7 : 0);
        }
    }

    /** A machine that is full: 30 classes, 20 methods, 200 bytes and 8 handlers. */
    private static Guest full() {
        Guest guest = new Guest(40);
        GuestFrames x = guest.machine;
        x.type(0, 8, 0);
        for (int i = 8; i < 30; i++) x.type(0, 0, 0);
        for (int i = 0; i < 20; i++) guest.method(I, 1, 1, I, 21, 0, 188, 10, 190, 172);
        for (int i = 0; i < 8; i++) x.handler(0, 1, 199, i);
        feedZeros(x, 200);
        x.run(3, 5, 0, 99);
        return guest;
    }

    /** "Methods throw what their comments name, the one named first when several would do." */
    private static void whatIsNamedFirstIsThrown() {
        GuestFrames x = full().machine;
        due("feed of 0 to a full tape", () -> x.feed(0, 0, 0, 0, 0, 0), ARGUMENT);
        due("feed of 21 to a full tape", () -> x.feed(0, 0, 0, 0, 0, 21), ARGUMENT);
        due("feed of the most to a full tape", () -> x.feed(0, 0, 0, 0, 0, MOST), ARGUMENT);
        due("feed of 20 to a full tape", () -> x.feed(0, 0, 0, 0, 0, 20), FULL);
        due("a class of -1 fields below none", () -> x.type(30, -1, 0), BOUNDS);
        due("a class of 9 fields below -1", () -> x.type(-1, 9, 0), BOUNDS);
        due("a class below none", () -> x.type(30, 0, 0), BOUNDS);
        due("a 31st class of -1 fields", () -> x.type(0, -1, 0), ARGUMENT);
        due("a 31st class of 9 fields", () -> x.type(7, 1, 0), ARGUMENT);
        due("a 31st class", () -> x.type(7, 0, 0), FULL);
        due("a ninth handler from -1", () -> x.handler(-1, 1, 0, 0), ARGUMENT);
        due("a ninth handler up to its from", () -> x.handler(1, 1, 0, 0), ARGUMENT);
        due("a ninth handler at -1", () -> x.handler(0, 1, -1, 0), ARGUMENT);
        due("a ninth handler for no class", () -> x.handler(0, 1, 0, 30), ARGUMENT);
        due("a ninth handler beyond", () -> x.handler(0, 201, 0, 0), ARGUMENT);
        due("a ninth handler at 201", () -> x.handler(0, 1, 201, 0), ARGUMENT);
        due("a ninth handler", () -> x.handler(0, 1, 0, 0), FULL);
        due("a 21st method of arguments 256", () -> x.method(256, 16, 0, 0), ARGUMENT);
        due("a 21st method of too few locals", () -> x.method(1, 0, 0, 0), ARGUMENT);
        due("a 21st method of 17 locals", () -> x.method(1, 17, 0, 0), ARGUMENT);
        due("a 21st method of stack 13", () -> x.method(1, 1, 13, 0), ARGUMENT);
        due("a 21st method of result 4", () -> x.method(1, 1, 0, 4), ARGUMENT);
        due("a 21st method", () -> x.method(1, 1, 0, 0), FULL);
        due("a run of no method without such fuel", () -> x.run(20, 0, 0, -1), BOUNDS);
        due("a run of method -1 with too much fuel", () -> x.run(-1, 0, 0, 20001), BOUNDS);
        due("a run without such fuel", () -> x.run(19, 0, 0, -1), ARGUMENT);
    }

    /** Calls that are refused in every state, and those that a full machine alone refuses. */
    private static void refused(GuestFrames x, boolean full) {
        List<LongSupplier> calls = new ArrayList<>(List.of(
            () -> x.feed(-1, -1, -1, -1, -1, 0), () -> x.feed(-1, -1, -1, -1, -1, 21),
            () -> x.type(-1, 0, 0), () -> x.type(30, 0, 0), () -> x.type(0, -1, -1), () -> x.type(0, 9, -1),
            () -> x.handler(-1, 1, 0, 0), () -> x.handler(1, 1, 0, 0), () -> x.handler(0, 1, -1, 0), () -> x.handler(0, 1, 0, 30),
            () -> x.handler(0, 201, 0, 0), () -> x.handler(0, 1, 201, 0),
            () -> x.method(-1, 0, 0, 0), () -> x.method(256, 16, 0, 0), () -> x.method(1, 0, 0, 0), () -> x.method(0, 17, 0, 0),
            () -> x.method(0, 0, -1, 0), () -> x.method(0, 0, 13, 0), () -> x.method(0, 0, 0, -1), () -> x.method(0, 0, 0, 4),
            () -> x.run(-1, 1, 1, 9), () -> x.run(20, 1, 1, 9), () -> x.run(0, 1, 1, -1), () -> x.run(0, 1, 1, 20001),
            () -> x.count(-1), () -> x.count(5)));
        if (full) {
            calls.add(() -> x.feed(-1, -1, -1, -1, -1, 1));
            calls.add(() -> x.type(0, 1, 1));
            calls.add(() -> x.handler(0, 200, 0, 0));
            calls.add(() -> x.method(0, 0, 0, 0));
        }
        for (LongSupplier call : calls) {
            CHECK.holds("a refused call throws", Guest.answer(call).startsWith("throws."));
        }
    }

    private static String told(GuestFrames x) {
        String told = x.result() + " " + x.steps();
        for (int what = 0; what <= 4; what++) told += " " + x.count(what);
        return told;
    }

    /** "A call that throws changes nothing." */
    private static void whatThrowsChangesNothing() {
        Guest guest = new Guest(40);
        GuestFrames x = guest.machine;
        guest.method(I, 1, 1, I, 21, 0, 188, 10, 190, 172);
        x.run(0, 5, 0, 99);
        x.type(0, 2, 2);
        x.handler(0, 2, 4, 2);
        x.feed(1 << 24 | 191 << 16, 0, 0, 0, 0, 2);
        String before = told(x);
        refused(x, false);
        CHECK.same("what is told behind refused calls", told(x), before);
        due("the next byte", () -> x.feed(0, 87 << 24 | 8 << 16 | 172 << 8, 0, 0, 0, 7), 9);
        refused(x, false);
        due("the next handler", () -> x.handler(0, 2, 2, 1), 2);
        refused(x, false);
        due("the next class", () -> x.type(7, 6, 0), 8);
        refused(x, false);
        due("the method", () -> x.method(0, 0, 1, I), 1);
        CHECK.same("the run of tape and handlers as they were", guest.outcome(1, 0, 0, 9), "0 5");
        due("its steps", () -> x.steps(), 2 + 2 + 3);

        Guest whole = full();
        before = told(whole.machine);
        CHECK.same("what a full machine tells", before, "5 4 30 20 200 7 7");
        refused(whole.machine, true);
        CHECK.same("what it tells behind refused calls", told(whole.machine), before);
        CHECK.same("a run of it", whole.outcome(19, 6, 0, 99), "0 6");
    }

    /** "An object is used for at most 512 calls after it has been made" */
    private static void theLastOfFiveHundredAndTwelveCalls() {
        Guest guest = new Guest(400);
        GuestFrames x = guest.machine;
        // A method that makes something with nearly every instruction, and fills the heap before it lets go.
        guest.feed(21, 0, 189, 58, 1, 187, 1, 87, 132, 0, 255, 167, 255, 250);
        x.method(Guest.kinds(I), 2, 1, 0);
        int calls = 2;
        for (; calls + 3 <= 509; calls += 3) {
            x.run(0, 396, 0, 20000);
            CHECK.due("steps at call " + calls, x.steps(), 20000);
            CHECK.due("words at call " + calls, x.count(3), 400);
        }
        for (; calls < 509; calls++) x.count(0);
        due("call 510", () -> x.run(0, 398, 0, 20000), 3);
        due("call 511", () -> x.count(4), 400);
        due("call 512", () -> x.steps(), 4);

        GuestFrames y = new GuestFrames(16);
        for (int i = 0; i < 255; i++) {
            due("a feed", () -> y.feed(255 << 24, 0, 0, 0, 0, 20), 20);
            due("a method that is not good", () -> y.method(255, 16, 12, 3), -1);
        }
        due("call 511 of another", () -> y.feed(RETURN << 24, 0, 0, 0, 0, 1), 1);
        due("call 512 of another", () -> y.method(0, 0, 0, 0), 0);
    }
}
