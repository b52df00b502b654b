import java.util.Arrays;

/**
 * The edges of the heap: words, room, and what is reachable ('Terms'): each sentence
 * that names one stands, in its own words, above the test that would fail without it.
 */
public final class HeapEdgesTest {
    private static final int NO = 0, I = 1, R = 3;
    private static final Check CHECK = new Check("HeapEdgesTest");

    public static void main(String[] args) {
        wordsOfObjects();
        wordsOfArrays();
        noRoom();
        noRoomForAnException();
        fullOfTheSmallest();
        sweptWhenThereIsNoRoom();
        reachableInLocals();
        reachableOnStacks();
        reachableInTurn();
        nothingInLocalsAtFirst();
        CHECK.end();
    }

    /** "An object takes 2 and its fields" */
    private static void wordsOfObjects() {
        for (int fields = 0; fields <= 8; fields++) {
            for (int parents = 0; parents <= fields; parents++) {
                Guest guest = new Guest(400);
                guest.machine.type(0, parents, 0x55);
                guest.machine.type(7, fields - parents, 0x33);
                guest.runs(0, 0, NO, 0, 0, 187, 8, 177);
                CHECK.due("words of an object of " + fields, guest.machine.count(3), 2 + fields);
                guest.runs(0, 0, NO, 0, 0, 187, 8, 187, 7, 177);
                CHECK.due("words of that and of one of " + parents, guest.machine.count(3), 4 + fields + parents);
            }
        }
        for (int type = 0; type <= 6; type++) {
            Guest guest = new Guest(16);
            guest.runs(0, 0, NO, 0, 0, 187, type, 177);
            CHECK.due("words of an object of class " + type, guest.machine.count(3), 2);
        }
    }

    /**
     * "a word for each I, R, for each J two, for two characters or shorts (also the last one alone) one, for four bytes or
     * flags one"
     */
    private static void wordsOfArrays() {
        for (int sort : Sort.ALL) {
            Guest guest = new Guest(400);
            int number = guest.method(I, 1, 1, NO, Guest.join(new int[] {21, 0}, Sort.make(sort), new int[] {177}));
            for (int length = 0; length <= 34; length++) {
                guest.outcome(number, length, 0, 9);
                CHECK.due("words of sort " + sort + " with " + length, guest.machine.count(3), Sort.wordsOf(sort, length));
            }
        }
    }

    /** "if it and all that is reachable are more words than the heap has, the run ends: NO ROOM" */
    private static void noRoom() {
        for (int size : new int[] {16, 17, 39, 40, 399, 400}) {
            for (int sort : Sort.ALL) {
                Guest guest = new Guest(size);
                int number = guest.method(I, 1, 1, NO, Guest.join(new int[] {21, 0}, Sort.make(sort), new int[] {177}));
                int most = sort == 4 || sort == 8 ? 4 * (size - 2) : sort == 5 || sort == 9 ? 2 * (size - 2)
                    : sort == 11 ? (size - 2) / 2 : size - 2;
                for (int length = most - 4; length <= most + 4; length++) {
                    CHECK.same("sort " + sort + " of " + length + " in " + size, guest.outcome(number, length, 0, 9),
                        length <= most ? "0 0" : "3 0");
                }
            }
            Guest guest = new Guest(size);
            // Makes an array of a, keeps it, and makes an object of two words.
            guest.method(I, 2, 1, NO, 21, 0, 188, 10, 58, 1, 187, 0, 177);
            CHECK.same("both fill " + size, guest.outcome(0, size - 4, 0, 9), "0 0");
            CHECK.due("words of both", guest.machine.count(3), size);
            CHECK.same("both are one more than " + size, guest.outcome(0, size - 3, 0, 9), "3 0");
            CHECK.due("steps of that", guest.machine.steps(), 4);
            // What finds no room leaves none for an exception, though that is smaller, and no handler gets it.
            guest = new Guest(size);
            guest.machine.type(0, 8, 0);
            guest.handler(0, 200, 9, 0);
            guest.method(I, 2, 1, NO, 21, 0, 188, 10, 58, 1, 187, 7, 177, 87, 177);
            CHECK.same("a larger one fits into " + size, guest.outcome(0, size - 12, 0, 9), "0 0");
            CHECK.same("a larger one does not fit into " + size, guest.outcome(0, size - 11, 0, 9), "3 0");
            CHECK.due("words before it", guest.machine.count(3), size - 9);
            // An array that is let go before.
            guest = new Guest(size);
            guest.method(I, 1, 1, NO, 21, 0, 188, 10, 87, 187, 0, 177);
            CHECK.same("the first is let go in " + size, guest.outcome(0, size - 2, 0, 9), "0 0");
            CHECK.due("words of the second", guest.machine.count(3), 2);
            CHECK.due("most words", guest.machine.count(4), size);
        }
    }

    /** "EXCEPTIONS are new objects": one that finds no room ends the run */
    private static void noRoomForAnException() {
        int[][] codes = {{4, 3, 108, 87}, {10, 9, 113, 88}, {1, 190, 87}, {25, 1, 2, 46, 87}, {25, 1, 3, 47, 88}, {2, 188, 10, 87},
            {25, 1, 192, 1, 87}, {25, 1, 191}, {1, 191}};
        int[] thrown = {1, 1, 2, 3, 5, 4, 5, 5, 2};
        for (int i = 0; i < codes.length; i++) {
            Guest guest = new Guest(20);
            int[] end = codes[i][codes[i].length - 1] == 191 ? new int[0] : new int[] {177};
            guest.method(I, 2, 2, NO, Guest.join(new int[] {21, 0, 188, 10, 58, 1}, codes[i], end));
            CHECK.same("room for exception " + i, guest.outcome(0, 16, 0, 99), "1 " + thrown[i]);
            CHECK.due("words then", guest.machine.count(3), 20);
            CHECK.same("no room for exception " + i, guest.outcome(0, 17, 0, 99), "3 0");
            CHECK.due("words of the array alone", guest.machine.count(3), 19);
            // A handler does not catch what was not made.
            guest.handler(0, 200, 6 + codes[i].length + 1, 0);
            guest.method(I, 2, 2, NO, Guest.join(new int[] {21, 0, 188, 10, 58, 1}, codes[i],
                new int[] {end.length == 0 ? 0 : 177, 87, 177}));
            CHECK.same("a handler and room for exception " + i, guest.outcome(1, 16, 0, 99), "0 0");
            CHECK.same("a handler and no room for exception " + i, guest.outcome(1, 17, 0, 99), "3 0");
        }
        Guest guest = new Guest(16);
        guest.method(R, 1, 2, NO, 25, 0, 184, 0, 177);
        guest.method(I, 1, 2, NO, 21, 0, 188, 10, 184, 0, 177);
        CHECK.same("room for the exception of depth", guest.outcome(1, 12, 0, 99), "1 6");
        CHECK.same("no room for the exception of depth", guest.outcome(1, 13, 0, 99), "3 0");
    }

    /** "An object takes 2": a heap that has as many of these as it can */
    private static void fullOfTheSmallest() {
        int[] code = {};
        for (int local = 1; local <= 15; local++) code = Guest.join(code, new int[] {187, 1, 58, local});
        for (int size : new int[] {16, 17, 30, 31, 32, 33, 399, 400}) {
            Guest guest = new Guest(size);
            guest.method(I, 16, 1, NO, Guest.join(code, new int[] {21, 0, 184, 0, 177}));
            CHECK.same("objects in " + size, guest.outcome(0, 0, 0, 20000), "3 0");
            int fit = size / 2;
            CHECK.due("words of all that fit in " + size, guest.machine.count(3), 2 * fit);
            CHECK.due("steps until none fits in " + size, guest.machine.steps(), 2 * fit + 2 * (fit / 15) + 1);
            // The same once more: what the run before has left is no hindrance.
            CHECK.same("objects in " + size + " again", guest.outcome(0, 0, 0, 20000), "3 0");
            CHECK.due("words then", guest.machine.count(3), 2 * fit);
        }
        // All but one of the places are kept, and the last one is used again and again.
        Guest guest = new Guest(400);
        int[] kept = Guest.join(code, new int[] {21, 0, 153, 0, 10, 21, 0, 2, 96, 184, 0, 177});
        int[] circle = {187, 2, 87, 167, 255, 253};
        guest.method(I, 16, 2, NO, Guest.join(kept, circle));
        CHECK.same("objects let go in a heap that is nearly full", guest.outcome(0, 12, 0, 20000), "2 0");
        CHECK.due("their words", guest.machine.count(3), 2 * 13 * 15 + 2);
        guest.method(0, 4, 1, NO, 187, 1, 58, 0, 187, 1, 58, 1, 187, 1, 58, 2, 187, 1, 58, 3, 16, 12, 184, 0, 177);
        CHECK.same("objects let go in a heap that has room for one", guest.outcome(1, 0, 0, 20000), "2 0");
        CHECK.due("their words", guest.machine.count(3), 400);
    }

    /** "a heap that is swept when there is no room": what is kept has what it had */
    private static void sweptWhenThereIsNoRoom() {
        for (int sort : Sort.ALL) {
            if (sort == 12) continue;
            int back = sort == 11 ? 133 : 0;
            int and = sort == 11 ? 136 : 0;
            for (int size : new int[] {16, 17, 24}) {
                // Local 2 keeps an array with 1 and 0 while others come and go; then what it has is told.
                Guest guest = new Guest(size);
                guest.method(I, 3, 3, I, Guest.join(new int[] {187, 1, 87, 5}, Sort.make(sort), new int[] {
                    58, 2, 187, 1, 87, 25, 2, 3, 4, back, Sort.store(sort),
                    16, 8, 188, 8, 87, 3, 188, 10, 87, 132, 0, 255, 21, 0, 157, 255, 242,
                    25, 2, 3, Sort.load(sort), and, 5, 120, 25, 2, 4, Sort.load(sort), and, 128, 25, 2, 190, 96, 172}));
                for (int turns : new int[] {1, 2, 3, 4, 50, 1000}) {
                    String what = "sort " + sort + " kept over " + turns + " turns in " + size;
                    CHECK.same(what, guest.outcome(0, turns, 0, 20000), "0 6");
                }
            }
        }
        Guest guest = new Guest(24);
        guest.machine.type(0, 3, 2);
        guest.machine.type(7, 0, 0);
        // An object that has an array that has an object of 8; others come and go between them, and change their places.
        guest.method(I, 3, 4, I, 187, 3, 87, 187, 7, 58, 1, 3, 188, 10, 87, 25, 1, 5, 189, 181, 7, 1, 187, 4, 87,
            25, 1, 180, 7, 1, 4, 187, 8, 83, 25, 1, 8, 181, 7, 2,
            16, 6, 188, 10, 87, 187, 0, 87, 132, 0, 255, 21, 0, 157, 255, 243,
            25, 1, 180, 7, 1, 4, 50, 193, 8, 25, 1, 180, 7, 1, 3, 50, 198, 0, 5, 3, 172,
            25, 1, 180, 7, 2, 96, 25, 1, 180, 7, 0, 96, 172);
        for (int turns : new int[] {1, 2, 3, 4, 5, 100, 2000}) {
            CHECK.same("objects kept over " + turns + " turns", guest.outcome(0, turns, 0, 20000), "0 6");
        }
    }

    /** "what frames of the run have in locals (also such as the judge knows no kind of)" */
    private static void reachableInLocals() {
        for (int local = 0; local < 16; local++) {
            Guest guest = new Guest(40);
            guest.method(0, 16, 1, NO, 8, 188, 10, 58, local, 187, 0, 177);
            guest.outcome(0, 0, 0, 99);
            CHECK.due("one in local " + local, guest.machine.count(3), 9);
            for (int[] over : new int[][] {{3, 54}, {9, 55}, {1, 58}}) {
                int number = guest.method(0, 16, 1, NO, 8, 188, 10, 58, local, over[0], over[1], local, 187, 0, 177);
                guest.outcome(number, 0, 0, 99);
                CHECK.due("one no more in local " + local + " by " + over[1], guest.machine.count(3), 2);
            }
        }
        for (int local = 1; local < 16; local++) {
            for (int[] other : new int[][] {{3, 54}, {9, 55}, {0, 0}}) {
                Guest guest = new Guest(40);
                int unset = other[0] == 0 ? 0 : local;
                guest.method(I, 16, 1, NO, 21, 0, 153, 0, 11, 8, 188, 10, 58, local, 167, 0, 6, other[0], other[1], unset,
                    187, 0, 177);
                guest.outcome(0, 1, 0, 99);
                CHECK.due("one in local " + local + " of no kind", guest.machine.count(3), 9);
                guest.outcome(0, 0, 0, 99);
                CHECK.due("none in local " + local + " of no kind", guest.machine.count(3), 2);
            }
        }
        // A handler's locals are of no kind, too, where the range began before they were set.
        Guest guest = new Guest(40);
        guest.handler(0, 9, 9, 0);
        guest.method(0, 2, 1, NO, 8, 188, 10, 58, 1, 1, 191, 0, 0, 87, 187, 0, 177);
        CHECK.same("caught", guest.outcome(0, 0, 0, 99), "0 0");
        CHECK.due("one in a local that a handler knows no kind of", guest.machine.count(3), 9);
    }

    /** "or on stacks (before the instruction that makes something has taken anything away)" */
    private static void reachableOnStacks() {
        int[][] rows = {
            {9, 8, 188, 10, 187, 0}, {16, 8, 188, 10, 8, 188, 10, 187, 0}, {2, 8, 188, 10, 87, 187, 0},
            {16, 8, 188, 10, 89, 8, 189, 187, 0}, {14, 8, 188, 10, 8, 189}};
        for (int[] row : rows) {
            Guest guest = new Guest(60);
            guest.runs(0, 0, NO, 0, 0, Guest.join(Arrays.copyOfRange(row, 1, row.length), new int[] {177}));
            CHECK.due("words of " + Arrays.toString(row), guest.machine.count(3), row[0]);
        }
        // What the exception's instruction takes is still there: an array of 5 words, a place, and an object of 2.
        int[][] thrown = {
            {5 + 2 + 2, 6, 189, 2, 187, 3, 83}, {5 + 2, 6, 189, 2, 50, 87}, {2, 6, 189, 190, 3, 108, 87},
            {5 + 2, 6, 189, 192, 3, 87}, {5 + 2, 6, 189, 180, 7, 0, 87}, {5 + 2 + 2, 6, 189, 187, 3, 181, 7, 1},
            {2 + 2, 187, 3, 190, 87}, {5 + 2, 6, 189, 2, 189, 87, 87}};
        for (int[] row : thrown) {
            Guest guest = new Guest(60);
            guest.machine.type(0, 2, 2);
            String got = guest.runs(0, 0, NO, 0, 0, Guest.join(Arrays.copyOfRange(row, 1, row.length), new int[] {177}));
            CHECK.holds("an exception of " + Arrays.toString(row) + " is thrown: " + got, got.startsWith("1 "));
            CHECK.due("words of " + Arrays.toString(row), guest.machine.count(3), row[0]);
        }
        Guest guest = new Guest(60);
        guest.runs(0, 0, NO, 0, 0, 6, 189, 191);
        CHECK.due("words with an array thrown", guest.machine.count(3), 7);
        // All twelve of the stack, and of the frames below.
        guest = new Guest(400);
        guest.method(0, 0, 12, NO, 187, 1, 187, 1, 187, 1, 187, 1, 187, 1, 187, 1, 187, 1, 187, 1, 187, 1, 187, 1, 187, 1,
            187, 1, 177);
        CHECK.same("twelve on a stack", guest.outcome(0, 0, 0, 99), "0 0");
        CHECK.due("their words", guest.machine.count(3), 24);
        guest.method(0, 0, 1, NO, 187, 1, 184, 1, 177);
        CHECK.same("one on each of sixteen stacks", guest.outcome(1, 0, 0, 99), "1 6");
        CHECK.due("their words and the exception's", guest.machine.count(3), 34);
        // Arguments are gone from the caller's stack while the call is under way.
        guest.method(R, 1, 1, NO, 1, 58, 0, 187, 1, 177);
        guest.method(0, 0, 1, NO, 8, 189, 184, 2, 177);
        CHECK.same("an argument that is let go", guest.outcome(3, 0, 0, 99), "0 0");
        CHECK.due("words without it", guest.machine.count(3), 2);
        guest.method(R, 1, 1, NO, 187, 1, 177);
        guest.method(0, 0, 2, NO, 8, 189, 89, 184, 4, 177);
        guest.outcome(5, 0, 0, 99);
        CHECK.due("words with it on the stack and in a local", guest.machine.count(3), 9);
    }

    /** "and what that has in turn" */
    private static void reachableInTurn() {
        Guest guest = new Guest(400);
        guest.machine.type(0, 2, 2);
        // A chain of a objects, each in the R field of the next, the last one in local 1.
        int chain = guest.method(I, 2, 3, NO, 1, 58, 1, 187, 7, 89, 25, 1, 181, 7, 1, 58, 1, 132, 0, 255, 21, 0, 157, 255,
            241, 177);
        for (int length : new int[] {1, 2, 3, 50, 99, 100}) {
            CHECK.same("a chain of " + length, guest.outcome(chain, length, 0, 20000), "0 0");
            CHECK.due("its words", guest.machine.count(3), 4 * length);
        }
        CHECK.same("a chain of 101", guest.outcome(chain, 101, 0, 20000), "3 0");
        // The same through arrays of one R.
        int arrays = guest.method(I, 2, 4, NO, 1, 58, 1, 4, 189, 89, 3, 25, 1, 83, 58, 1, 132, 0, 255, 21, 0, 157, 255, 242, 177);
        CHECK.same("a chain of 133 arrays", guest.outcome(arrays, 133, 0, 20000), "0 0");
        CHECK.due("their words", guest.machine.count(3), 399);
        CHECK.same("a chain of 134 arrays", guest.outcome(arrays, 134, 0, 20000), "3 0");
        // Two that have one another, and one that has itself, are let go all the same.
        CHECK.same("a circle let go", guest.runs(0, 2, NO, 0, 0, 187, 7, 58, 0, 187, 7, 58, 1,
            25, 0, 25, 1, 181, 7, 1, 25, 1, 25, 0, 181, 7, 1, 1, 58, 0, 187, 0, 87, 1, 58, 1, 187, 0, 177), "0 0");
        CHECK.due("words without the circle", guest.machine.count(3), 2);
        CHECK.due("words with the circle", guest.machine.count(4), 10);
        // An I is no reference, whatever its number, nor are the elements of other arrays.
        CHECK.same("an I in a field", guest.runs(0, 2, NO, 0, 0, 187, 7, 58, 0, 187, 7, 87, 25, 0, 5, 181, 7, 0, 187, 0, 177),
            "0 0");
        CHECK.due("words without what has that number", guest.machine.count(3), 6);
        for (int sort : Sort.ALL) {
            if (sort == 12) continue;
            int two = sort == 11 ? 133 : 0;
            CHECK.same("2 in an array of sort " + sort, guest.runs(0, 2, NO, 0, 0, Guest.join(new int[] {4}, Sort.make(sort),
                new int[] {58, 0, 187, 7, 87, 25, 0, 3, 5, two, Sort.store(sort), 187, 0, 177})), "0 0");
            CHECK.due("words without what has that number", guest.machine.count(3), Sort.wordsOf(sort, 1) + 2);
        }
    }

    /** "(Locals that are no arguments have nothing at first.)" */
    private static void nothingInLocalsAtFirst() {
        for (int local = 1; local < 16; local++) {
            Guest guest = new Guest(40);
            // A call that leaves something in each of its locals, then one that sets none of them.
            guest.method(R, 16, 1, NO, 25, 0, 58, local, 177);
            guest.method(R, 16, 1, NO, 187, 0, 177);
            guest.method(0, 0, 1, NO, 8, 189, 184, 0, 1, 184, 1, 177);
            CHECK.same("two calls", guest.outcome(2, 0, 0, 99), "0 0");
            CHECK.due("nothing in local " + local + " from the call before", guest.machine.count(3), 2);
            int reads = guest.method(I, 16, 1, NO, 21, 0, 153, 0, 8, 8, 188, 10, 58, local, 187, 0, 177);
            guest.outcome(reads, 1, 0, 99);
            CHECK.due("one in local " + local, guest.machine.count(3), 9);
            guest.outcome(reads, 0, 0, 99);
            CHECK.due("nothing in local " + local + " from the run before", guest.machine.count(3), 2);
        }
        // A first local that is no argument has nothing either.
        Guest first = new Guest(40);
        first.method(0, 1, 1, NO, 8, 189, 58, 0, 177);
        first.method(0, 1, 1, NO, 187, 0, 177);
        first.method(0, 0, 1, NO, 184, 0, 184, 1, 177);
        for (int run = 0; run < 2; run++) {
            first.outcome(2, 0, 0, 99);
            CHECK.due("nothing in local 0 from the call before", first.machine.count(3), 2);
            first.outcome(0, 0, 0, 99);
            first.outcome(1, 0, 0, 99);
            CHECK.due("nothing in local 0 from the run before", first.machine.count(3), 2);
        }
        // What a frame that went by an exception had does not stay either.
        Guest guest = new Guest(40);
        guest.method(0, 16, 1, NO, 8, 189, 58, 3, 1, 191);
        guest.method(0, 16, 1, NO, 187, 0, 177);
        guest.handler(0, 2, 3, 0);
        guest.method(0, 0, 1, NO, 184, 0, 177, 87, 184, 1, 177);
        CHECK.same("a call behind one that threw", guest.outcome(2, 0, 0, 99), "0 0");
        CHECK.due("nothing from that", guest.machine.count(3), 2);
    }
}
