/** Promises 1 to 5 and 9 by their calls: what they answer, refuse and leave alone. */
public final class CallsTest {
    private static final Class<IllegalArgumentException> ARGUMENT = IllegalArgumentException.class;
    private static final Class<IndexOutOfBoundsException> BOUNDS = IndexOutOfBoundsException.class;
    private static final Class<UnsupportedOperationException> FULL = UnsupportedOperationException.class;
    private static final int RETURN = 177;
    private static final Check CHECK = new Check("CallsTest");

    public static void main(String[] args) {
        newObject();
        wordsAreTheNearest();
        feed();
        feedRefuses();
        type();
        typeRefuses();
        handler();
        handlerRefuses();
        method();
        methodRefuses();
        methodEmptiesTheTape();
        methodsAreTwenty();
        count();
        CHECK.end();
    }

    private static void newObject() {
        GuestFrames x = new GuestFrames(40);
        CHECK.due("classes of a new object", x.count(0), 7);
        for (int what = 1; what <= 4; what++) CHECK.due("count " + what + " of a new object", x.count(what), 0);
        CHECK.due("result of a new object", x.result(), 0);
        CHECK.due("steps of a new object", x.steps(), 0);
        CHECK.refuses("run without methods", BOUNDS, () -> x.run(0, 0, 0, 1));
    }

    private static void wordsAreTheNearest() {
        int[][] rows = {{-5, 16}, {Integer.MIN_VALUE, 16}, {0, 16}, {15, 16}, {16, 16}, {17, 17}, {399, 399},
            {400, 400}, {401, 400}, {Integer.MAX_VALUE, 400}};
        for (int[] row : rows) {
            Guest guest = new Guest(row[0]);
            guest.method(Guest.I, 1, 1, Guest.R, 21, 0, 188, 10, 176);
            CHECK.same("an array that fills " + row[0], guest.outcome(0, row[1] - 2, 0, 9), "0 1");
            CHECK.due("words of that", guest.machine.count(3), row[1]);
            CHECK.same("an array beyond " + row[0], guest.outcome(0, row[1] - 1, 0, 9), "3 0");
        }
    }

    private static void feed() {
        GuestFrames x = new GuestFrames(40);
        CHECK.due("feed of 1", x.feed(0x10000000, 0, 0, 0, 0, 1), 1);
        CHECK.due("feed of 3 more", x.feed(0x7FAC9999, 9, 9, 9, 9, 2), 3);
        CHECK.due("bytes then", x.count(2), 3);
        CHECK.due("the method", x.method(0, 0, 1, 1), 0);
        x.run(0, 0, 0, 9);
        CHECK.due("16 127 172 ends with", x.result(), 127);
        CHECK.due("feed of 20", x.feed(0x03108060, 0x10816010, 0x82601083, 0x60108460, 0x108560AC, 20), 20);
        CHECK.due("the method of five numbers", x.method(0, 0, 2, 1), 1);
        x.run(1, 0, 0, 99);
        CHECK.due("the highest byte of each comes first", x.result(), -128 - 127 - 126 - 125 - 124 - 123);
    }

    private static void feedRefuses() {
        GuestFrames x = new GuestFrames(40);
        for (int n : new int[] {0, -1, 21, Integer.MIN_VALUE, Integer.MAX_VALUE}) {
            CHECK.refuses("feed of " + n, ARGUMENT, () -> x.feed(0, 0, 0, 0, 0, n));
        }
        for (int i = 1; i <= 9; i++) CHECK.due("feed " + i, x.feed(0, 0, 0, 0, 0, 20), 20 * i);
        CHECK.due("feed of 19", x.feed(0, 0, 0, 0, 0, 19), 199);
        CHECK.refuses("feed beyond 200", FULL, () -> x.feed(0, 0, 0, 0, 0, 2));
        CHECK.refuses("feed of 21 beyond 200", ARGUMENT, () -> x.feed(0, 0, 0, 0, 0, 21));
        CHECK.due("bytes as before", x.count(2), 199);
        CHECK.due("feed to 200", x.feed(RETURN << 24, 0, 0, 0, 0, 1), 200);
        CHECK.refuses("feed to 201", FULL, () -> x.feed(0, 0, 0, 0, 0, 1));
        CHECK.due("a method of 200 bytes", x.method(0, 0, 0, 0), 0);
        CHECK.due("its outcome", x.run(0, 0, 0, 200), 0);
        CHECK.due("its steps", x.steps(), 200);
    }

    private static void type() {
        Guest guest = new Guest(60);
        GuestFrames x = guest.machine;
        CHECK.due("the first class", x.type(0, 3, 2 | 8 | 1 << 31), 7);
        CHECK.due("one below it", x.type(7, 2, 1), 8);
        CHECK.due("one below ARITHMETIC", x.type(1, 0, -1), 9);
        CHECK.due("one of 8 fields", x.type(8, 3, 7), 10);
        CHECK.due("none more than that", x.type(10, 0, 0), 11);
        CHECK.due("classes", x.count(0), 12);
        String kinds = "IRIRIRRR";
        for (int field = 0; field < 8; field++) {
            int end = kinds.charAt(field) == 'R' ? Guest.R : Guest.I;
            int give = end == Guest.R ? 176 : 172;
            CHECK.due("field " + field, guest.method(0, 0, 1, end, 187, 10, 180, 10, field, give), field);
            CHECK.due("field " + field + " as the other kind",
                guest.method(0, 0, 1, 4 - end, 187, 10, 180, 10, field, 348 - give), -1);
        }
        CHECK.due("a field that it has not", guest.method(0, 0, 1, 1, 187, 10, 180, 10, 8, 172), -1);
        CHECK.due("a parent has not its children's", guest.method(0, 0, 1, 3, 187, 10, 180, 7, 3, 176), -1);
        CHECK.due("words of one", guest.method(0, 0, 1, 0, 187, 11, 177), 8);
        x.run(8, 0, 0, 9);
        CHECK.due("words of one", x.count(3), 10);
        CHECK.same("it is of those above", guest.runs(0, 0, 1, 0, 0,
            187, 11, 193, 0, 187, 11, 193, 7, 96, 187, 11, 193, 8, 96, 187, 11, 193, 10, 96, 187, 11, 193, 11, 96,
            187, 11, 193, 9, 96, 187, 11, 193, 1, 96, 172), "0 5");
    }

    private static void typeRefuses() {
        GuestFrames x = new GuestFrames(40);
        for (int parent : new int[] {-1, 7, 30, Integer.MIN_VALUE, Integer.MAX_VALUE}) {
            CHECK.refuses("type below " + parent, BOUNDS, () -> x.type(parent, -1, 0));
        }
        for (int fields : new int[] {-1, 9, Integer.MIN_VALUE, Integer.MAX_VALUE}) {
            CHECK.refuses("type of " + fields, ARGUMENT, () -> x.type(0, fields, 0));
        }
        x.type(0, 5, 0);
        CHECK.refuses("type of 9 with its parent", ARGUMENT, () -> x.type(7, 4, 0));
        CHECK.refuses("type of very many with its parent", ARGUMENT, () -> x.type(7, Integer.MAX_VALUE, 0));
        CHECK.due("classes as before", x.count(0), 8);
        for (int i = 8; i < 30; i++) CHECK.due("class " + i, x.type(i - 1, 0, 0), i);
        CHECK.refuses("the 31st", FULL, () -> x.type(29, 0, 0));
        CHECK.refuses("the 31st of too many fields", ARGUMENT, () -> x.type(29, 4, 0));
        CHECK.refuses("the 31st of no parent", BOUNDS, () -> x.type(30, 4, 0));
        CHECK.due("classes then", x.count(0), 30);
    }

    private static void handler() {
        GuestFrames x = new GuestFrames(40);
        CHECK.due("the first", x.handler(0, 1, 0, 0), 1);
        CHECK.due("the widest", x.handler(0, 200, 200, 6), 2);
        CHECK.due("the last", x.handler(199, 200, 0, 0), 3);
        for (int i = 4; i <= 8; i++) CHECK.due("number " + i, x.handler(5, 6, 7, 1), i);
        CHECK.refuses("the ninth", FULL, () -> x.handler(0, 1, 0, 0));
        CHECK.refuses("a wrong ninth", ARGUMENT, () -> x.handler(0, 0, 0, 0));
        x.method(0, 0, 0, 0);
        CHECK.due("they are gone", x.handler(0, 1, 0, 0), 1);
    }

    private static void handlerRefuses() {
        GuestFrames x = new GuestFrames(40);
        int most = Integer.MAX_VALUE;
        int least = Integer.MIN_VALUE;
        int[][] rows = {{-1, 1, 0, 0}, {least, 1, 0, 0}, {5, 5, 0, 0}, {5, 4, 0, 0}, {0, least, 0, 0}, {0, 1, -1, 0},
            {0, 1, least, 0}, {0, 1, 0, 7}, {0, 1, 0, -1}, {0, 1, 0, most}, {0, 1, 201, 0}, {0, 201, 0, 0},
            {200, 201, 0, 0}, {0, most, 0, 0}, {0, 1, most, 0}, {most, most, 0, 0}};
        for (int[] row : rows) {
            CHECK.refuses("handler " + row[0] + ", " + row[1] + ", " + row[2] + ", " + row[3], ARGUMENT,
                () -> x.handler(row[0], row[1], row[2], row[3]));
        }
        CHECK.due("none came of it", x.handler(0, 1, 0, 0), 1);
        x.type(0, 0, 0);
        CHECK.due("a class that came", x.handler(0, 1, 0, 7), 2);
    }

    private static void method() {
        Guest guest = new Guest(40);
        CHECK.due("no code", guest.method(0, 0, 0, 0), -1);
        CHECK.due("the first", guest.method(0, 0, 0, 0, RETURN), 0);
        CHECK.due("most of all", guest.method(255, 16, 12, 0, RETURN), 1);
        CHECK.due("kinds in order", guest.method(Guest.kinds(1, 2, 3, 1), 4, 4, 1, 21, 0, 22, 1, 25, 2, 21, 3, 172), 2);
        CHECK.due("kinds end with the first 0", guest.method(Guest.kinds(1, 0, 3, 3), 1, 1, 1, 21, 0, 172), 3);
        CHECK.due("a kind behind the first 0", guest.method(Guest.kinds(1, 0, 3, 3), 3, 1, 3, 25, 2, 176), -1);
        CHECK.due("the first digit 0", guest.method(Guest.kinds(0, 1, 2, 3), 0, 0, 0, RETURN), 4);
        CHECK.due("methods", guest.machine.count(1), 5);
    }

    private static void methodRefuses() {
        GuestFrames x = new GuestFrames(40);
        x.feed(RETURN << 24, 0, 0, 0, 0, 1);
        int most = Integer.MAX_VALUE;
        int least = Integer.MIN_VALUE;
        int[][] rows = {{-1, 4, 0, 0}, {256, 4, 0, 0}, {least, 4, 0, 0}, {most, 4, 0, 0}, {0, -1, 0, 0}, {0, 17, 0, 0},
            {1, 0, 0, 0}, {5, 1, 0, 0}, {255, 3, 0, 0}, {0, most, 0, 0}, {0, least, 0, 0}, {0, 0, -1, 0},
            {0, 0, 13, 0}, {0, 0, most, 0}, {0, 0, least, 0}, {0, 0, 0, -1}, {0, 0, 0, 4}, {0, 0, 0, most},
            {0, 0, 0, least}};
        for (int[] row : rows) {
            CHECK.refuses("method " + row[0] + ", " + row[1] + ", " + row[2] + ", " + row[3], ARGUMENT,
                () -> x.method(row[0], row[1], row[2], row[3]));
        }
        CHECK.due("the tape stays", x.count(2), 1);
        CHECK.due("no method came", x.count(1), 0);
        CHECK.due("the method", x.method(0, 0, 0, 0), 0);
    }

    private static void methodEmptiesTheTape() {
        Guest guest = new Guest(40);
        CHECK.due("a bad one", guest.handler(0, 1, 0, 0).method(0, 0, 0, 0, 172), -1);
        CHECK.due("the tape is empty", guest.machine.count(2), 0);
        CHECK.due("handlers are gone", guest.method(0, 0, 0, 0, RETURN), 0);
        CHECK.due("the tape is empty again", guest.machine.count(2), 0);
        guest.handler(0, 1, 0, 0).method(0, 0, 0, 0);
        CHECK.due("handlers are gone with no code, too", guest.method(0, 0, 0, 0, RETURN), 1);
        CHECK.due("methods", guest.machine.count(1), 2);
    }

    private static void methodsAreTwenty() {
        Guest guest = new Guest(40);
        for (int i = 0; i < 20; i++) CHECK.due("method " + i, guest.method(0, 0, 0, 0, RETURN), i);
        guest.feed(RETURN);
        CHECK.refuses("the 21st", FULL, () -> guest.machine.method(0, 0, 0, 0));
        CHECK.refuses("a wrong 21st", ARGUMENT, () -> guest.machine.method(0, 0, 0, 4));
        CHECK.due("methods", guest.machine.count(1), 20);
        CHECK.due("the tape stays", guest.machine.count(2), 1);
    }

    private static void count() {
        GuestFrames x = new GuestFrames(40);
        for (int what : new int[] {-1, 5, Integer.MIN_VALUE, Integer.MAX_VALUE}) {
            CHECK.refuses("count of " + what, BOUNDS, () -> x.count(what));
        }
        x.type(0, 0, 0);
        x.feed(0, 0, 0, 0, 0, 7);
        CHECK.due("classes", x.count(0), 8);
        CHECK.due("methods", x.count(1), 0);
        CHECK.due("bytes", x.count(2), 7);
    }
}
