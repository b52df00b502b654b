/** Promises 6 to 9: runs, their outcomes, exceptions, and the heap. */
public final class RunsTest {
    private static final int NO = 0, I = 1, J = 2, R = 3;
    private static final Check CHECK = new Check("RunsTest");

    public static void main(String[] args) {
        argumentsByTurns();
        refusals();
        fuel();
        results();
        aRunForgetsTheOneBefore();
        exceptions();
        exceptionsBeforeOthers();
        handlers();
        handlersAbove();
        depth();
        wordsOfArrays();
        wordsReachable();
        localsWithoutKind();
        noRoom();
        noRoomForExceptions();
        sweeping();
        CHECK.end();
    }

    private static void argumentsByTurns() {
        long a = 0x1122334455667788L;
        long b = -0x0102030405060708L;
        int[][] orders = {{I, J, I, J}, {J, I, J, I}, {R, J, R, J}, {J, R, R, J}, {R, R, R, I}, {I, I, I, I}, {J, J, J, J}};
        for (int[] order : orders) {
            boolean first = true;
            for (int i = 0; i < 4; i++) {
                int kind = order[i];
                int load = kind == I ? 21 : kind == J ? 22 : 25;
                int end = kind == I ? 172 : kind == J ? 173 : 176;
                long turn = first ? a : b;
                long want = kind == I ? (int) turn : kind == J ? turn : 0;
                if (kind != R) first = !first;
                CHECK.same("argument " + i, Guest.alone(Guest.kinds(order), 4, kind, a, b, load, i, end), "0 " + want);
            }
        }
    }

    private static void refusals() {
        Guest guest = new Guest(40);
        GuestFrames x = guest.machine;
        guest.method(I, 1, 1, I, 21, 0, 188, 10, 190, 172);
        guest.outcome(0, 5, 0, 9);
        for (int method : new int[] {-1, 1, 20, Integer.MIN_VALUE, Integer.MAX_VALUE}) {
            CHECK.refuses("run of " + method, IndexOutOfBoundsException.class, () -> x.run(method, 0, 0, -1));
        }
        for (int fuel : new int[] {-1, 20001, Integer.MIN_VALUE, Integer.MAX_VALUE}) {
            CHECK.refuses("fuel " + fuel, IllegalArgumentException.class, () -> x.run(0, 0, 0, fuel));
        }
        CHECK.due("the result stays", x.result(), 5);
        CHECK.due("steps stay", x.steps(), 4);
        CHECK.due("words stay", x.count(3), 7);
        CHECK.due("the most words stay", x.count(4), 7);
    }

    private static void fuel() {
        Guest guest = new Guest(40);
        GuestFrames x = guest.machine;
        guest.method(0, 0, 0, NO, 167, 0, 0);
        for (int fuel : new int[] {0, 1, 2, 19999, 20000}) {
            CHECK.same("an endless way with " + fuel, guest.outcome(0, 0, 0, fuel), "2 0");
            CHECK.due("its steps", x.steps(), fuel);
        }
        guest.method(0, 0, 1, I, 8, 172);
        CHECK.same("one too few", guest.outcome(1, 0, 0, 1), "2 0");
        CHECK.same("as many as needed", guest.outcome(1, 0, 0, 2), "0 5");
        CHECK.due("steps of that", x.steps(), 2);
        CHECK.same("more than needed", guest.outcome(1, 0, 0, 20000), "0 5");
        CHECK.due("steps of that, too", x.steps(), 2);
        guest.method(0, 0, 1, NO, 1, 191);
        CHECK.same("thrown with the last", guest.outcome(2, 0, 0, 2), "1 2");
        guest.method(0, 0, 1, R, 17, 1, 0, 188, 10, 176);
        CHECK.same("no room with the last", guest.outcome(3, 0, 0, 2), "3 0");
        CHECK.due("steps of that", x.steps(), 2);
        guest.method(0, 0, 1, I, 184, 1, 172);
        CHECK.same("a call counts with what it does", guest.outcome(4, 0, 0, 3), "2 0");
        CHECK.same("a call that ends", guest.outcome(4, 0, 0, 4), "0 5");
        CHECK.due("its steps", x.steps(), 4);
    }

    private static void results() {
        CHECK.same("nothing", Guest.alone(0, 0, NO, 7, 7, 8, 177), "0 0");
        CHECK.same("I with its sign", Guest.alone(I, 1, I, -3, 0, 21, 0, 172), "0 -3");
        CHECK.same("I of the lowest bits", Guest.alone(I, 1, I, 0xFFFFFFFFL, 0, 21, 0, 172), "0 -1");
        CHECK.same("J", Guest.alone(J, 1, J, Long.MIN_VALUE, 0, 22, 0, 173), "0 " + Long.MIN_VALUE);
        CHECK.same("an R", Guest.alone(0, 0, R, 0, 0, 3, 188, 8, 176), "0 1");
        CHECK.same("none", Guest.alone(R, 1, R, 5, 5, 25, 0, 176), "0 0");
        Guest guest = new Guest(40);
        guest.machine.type(4, 1, 0);
        CHECK.same("the class thrown", guest.runs(0, 0, NO, 0, 0, 187, 7, 191), "1 7");
        CHECK.same("class 0 thrown", guest.runs(0, 0, NO, 0, 0, 187, 0, 191), "1 0");
    }

    private static void aRunForgetsTheOneBefore() {
        Guest guest = new Guest(40);
        guest.method(0, 0, 1, I, 8, 188, 10, 190, 172);
        guest.method(0, 0, 2, R, 16, 38, 188, 10, 176);
        guest.method(0, 0, 0, NO, 177);
        CHECK.same("makes 7 words", guest.outcome(0, 0, 0, 4), "0 5");
        CHECK.due("words", guest.machine.count(3), 7);
        CHECK.same("the heap is empty again", guest.outcome(1, 0, 0, 9), "0 1");
        CHECK.due("words then", guest.machine.count(3), 40);
        guest.outcome(2, 0, 0, 9);
        CHECK.due("no words", guest.machine.count(3), 0);
        CHECK.due("no most words", guest.machine.count(4), 0);
        CHECK.due("one step", guest.machine.steps(), 1);
        guest.outcome(1, 0, 0, 9);
        guest.outcome(2, 0, 0, 0);
        CHECK.due("the result of no fuel", guest.machine.result(), 0);
    }

    private static void due(String what, String want, int... code) {
        CHECK.same(what, Guest.alone(I, 3, I, 7, 0, code), want);
    }

    private static void exceptions() {
        due("quotient by 0", "1 1", 4, 3, 108, 172);
        due("rest by 0", "1 1", 4, 3, 112, 172);
        due("J quotient by 0", "1 1", 10, 9, 109, 136, 172);
        due("J rest by 0", "1 1", 10, 9, 113, 136, 172);
        int[] loads = {46, 47, 50, 51, 52, 53};
        int[] stores = {79, 80, 83, 84, 85, 86};
        int[][] sorts = {{10}, {11}, {12}, {8, 4}, {5}, {9}};
        int[] away = {87, 88, 87, 87, 87, 87};
        int[] values = {3, 9, 1, 3, 3, 3};
        for (int i = 0; i < loads.length; i++) {
            due(loads[i] + " of none", "1 2", 1, 3, loads[i], away[i], 3, 172);
            due(stores[i] + " into none", "1 2", 1, 3, values[i], stores[i], 3, 172);
            due(loads[i] + " of an object", "1 5", 187, 0, 3, loads[i], away[i], 3, 172);
            due(stores[i] + " into an object", "1 5", 187, 0, 3, values[i], stores[i], 3, 172);
            for (int sort : new int[] {4, 5, 8, 9, 10, 11, 12}) {
                boolean fits = sort == sorts[i][0] || sort == sorts[i][sorts[i].length - 1];
                for (int index : new int[] {2, 3, 4, 5, 6}) {
                    String want = !fits ? "1 5" : index < 3 || index > 4 ? "1 3" : "0 0";
                    due(loads[i] + " of sort " + sort + " at " + (index - 3), want,
                        make(sort, 5, index, loads[i], away[i], 3, 172));
                    due(stores[i] + " into sort " + sort + " at " + (index - 3), want,
                        make(sort, 5, index, values[i], stores[i], 3, 172));
                }
            }
        }
        for (int sort : new int[] {4, 5, 8, 9, 10, 11, 12}) due("sort " + sort + " of -1", "1 4", make(sort, 2, 190, 172));
        due("length of none", "1 2", 1, 190, 172);
        due("length of an object", "1 5", 187, 2, 190, 172);
        due("none thrown", "1 2", 1, 191);
        due("an array thrown", "1 5", 3, 188, 10, 191);
        due("192", "1 5", 187, 2, 192, 3, 87, 3, 172);
        Guest guest = new Guest(40);
        guest.machine.type(0, 2, 2);
        guest.machine.type(7, 0, 0);
        CHECK.same("a field of none", guest.runs(0, 0, I, 0, 0, 1, 180, 7, 0, 172), "1 2");
        CHECK.same("a field stored of none", guest.runs(0, 0, NO, 0, 0, 1, 3, 181, 7, 0, 177), "1 2");
        CHECK.same("a field of an array", guest.runs(0, 0, I, 0, 0, 5, 188, 10, 180, 7, 0, 172), "1 5");
        CHECK.same("a field of another class", guest.runs(0, 0, I, 0, 0, 187, 3, 180, 7, 0, 172), "1 5");
        CHECK.same("a child's field of its parent", guest.runs(0, 0, I, 0, 0, 187, 7, 180, 8, 0, 172), "1 5");
        CHECK.same("a field stored of another class", guest.runs(0, 0, NO, 0, 0, 187, 3, 1, 181, 7, 1, 177), "1 5");
        CHECK.same("a parent's field of its child", guest.runs(0, 0, I, 0, 0, 187, 8, 180, 7, 0, 172), "0 0");
    }

    /** The code, with an array of that sort and size before it. */
    private static int[] make(int sort, int size, int... code) {
        int[] first = sort == 12 ? new int[] {size, 189} : new int[] {size, 188, sort};
        int[] whole = java.util.Arrays.copyOf(first, first.length + code.length);
        System.arraycopy(code, 0, whole, first.length, code.length);
        return whole;
    }

    private static void exceptionsBeforeOthers() {
        due("none before the place", "1 2", 1, 2, 46, 172);
        due("the sort before the place", "1 5", 3, 188, 9, 2, 46, 172);
        due("below 0 before no room", "1 4", 17, 128, 0, 188, 11, 190, 172);
    }

    private static void handlers() {
        Guest guest = new Guest(40);
        guest.machine.type(2, 0, 0);
        guest.machine.type(7, 0, 0);
        int[] code = {187, 8, 191, 87, 4, 172, 87, 5, 172, 87, 6, 172};
        int[][] rows = {
            {0, 3, 3, 8, 0, 3, 6, 7, 1}, {0, 3, 3, 7, 0, 3, 6, 8, 1}, {0, 3, 3, 1, 0, 3, 6, 2, 2}, {0, 3, 3, 3, 0, 3, 6, 0, 2},
            {0, 2, 3, 8, 0, 3, 6, 8, 2}, {2, 3, 3, 8, 0, 3, 6, 8, 1}, {3, 9, 3, 8, 2, 200, 9, 8, 3}, {0, 1, 3, 0, 1, 2, 6, 0, -8},
            {0, 3, 3, 1, 0, 3, 6, 6, -8}};
        for (int[] row : rows) {
            guest.handler(row[0], row[1], row[2], row[3]).handler(row[4], row[5], row[6], row[7]);
            String want = row[8] < 0 ? "1 " + -row[8] : "0 " + row[8];
            CHECK.same("handlers for " + row[3] + " and " + row[7], guest.runs(0, 0, I, 0, 0, code), want);
        }
        guest = new Guest(40);
        guest.handler(0, 5, 6, 1);
        CHECK.same("the stack has it alone", guest.runs(0, 0, I, 0, 0, 9, 1, 4, 3, 108, 172, 193, 1, 172), "0 1");
        guest.handler(0, 3, 4, 1);
        CHECK.same("locals stay", guest.runs(I, 1, I, 77, 0, 4, 3, 108, 172, 87, 21, 0, 172), "0 77");
        guest.handler(0, 5, 0, 0);
        CHECK.due("code whose handler is its beginning", guest.method(0, 0, 2, NO, 4, 3, 108, 87, 177), -1);
        guest.handler(3, 4, 2, 0);
        CHECK.same("thrown again and again", guest.runs(0, 0, NO, 0, 0, 187, 3, 0, 191), "2 0");
        guest.handler(0, 4, 4, 2).handler(4, 5, 5, 5);
        CHECK.same("thrown out of a handler", guest.runs(0, 0, NO, 0, 0, 1, 191, 0, 0, 191, 87, 177), "1 2");
    }

    private static void handlersAbove() {
        Guest guest = new Guest(40);
        guest.method(I, 1, 2, I, 16, 100, 21, 0, 108, 172);
        guest.method(I, 1, 2, I, 21, 0, 184, 0, 4, 96, 172);
        guest.handler(3, 5, 9, 1);
        guest.method(I, 1, 3, I, 8, 21, 0, 184, 1, 96, 172, 0, 0, 193, 1, 2, 96, 172);
        CHECK.same("without an exception", guest.outcome(2, 20, 0, 99), "0 11");
        CHECK.same("from two frames below", guest.outcome(2, 0, 0, 99), "0 0");
        guest.handler(4, 5, 7, 1);
        guest.method(I, 1, 3, I, 8, 87, 21, 0, 184, 1, 172, 193, 1, 172);
        CHECK.same("in the narrowest range", guest.outcome(3, 0, 0, 99), "0 1");
        guest.handler(5, 6, 7, 0);
        guest.method(I, 1, 3, I, 21, 0, 184, 1, 0, 172, 172, 193, 1, 172);
        CHECK.same("the place of the call is not in the range", guest.outcome(4, 0, 0, 99), "1 1");
        guest.handler(2, 3, 7, 5).handler(2, 3, 7, 1);
        guest.method(I, 1, 3, I, 21, 0, 184, 1, 0, 172, 0, 87, 7, 172);
        CHECK.same("the second handler", guest.outcome(5, 0, 0, 99), "0 4");
        CHECK.same("a call behind it works on", guest.outcome(5, 50, 0, 99), "0 3");
    }

    private static void depth() {
        Guest guest = new Guest(40);
        guest.method(I, 1, 2, I, 21, 0, 154, 0, 5, 3, 172, 21, 0, 2, 96, 184, 0, 172);
        CHECK.same("sixteen frames", guest.outcome(0, 15, 0, 999), "0 0");
        CHECK.due("nothing made", guest.machine.count(4), 0);
        CHECK.same("seventeen frames", guest.outcome(0, 16, 0, 999), "1 6");
        CHECK.due("the exception made", guest.machine.count(4), 2);
        guest.handler(0, 2, 3, 6);
        guest.method(0, 0, 1, I, 184, 1, 172, 87, 16, 9, 172);
        CHECK.same("caught in the sixteenth", guest.outcome(1, 0, 0, 999), "0 9");
        CHECK.due("steps of that", guest.machine.steps(), 16 + 3 + 15);
    }

    private static void wordsOfArrays() {
        int[][] rows = {{4, 0, 2}, {4, 1, 3}, {4, 4, 3}, {4, 5, 4}, {8, 0, 2}, {8, 3, 3}, {8, 8, 4}, {8, 9, 5}, {5, 0, 2},
            {5, 1, 3}, {5, 2, 3}, {5, 3, 4}, {9, 1, 3}, {9, 6, 5}, {9, 7, 6}, {10, 0, 2}, {10, 7, 9}, {11, 0, 2}, {11, 7, 16}};
        for (int[] row : rows) {
            Guest guest = new Guest(400);
            guest.method(I, 1, 1, R, 21, 0, 188, row[0], 176);
            guest.outcome(0, row[1], 0, 9);
            CHECK.due("words of sort " + row[0] + " with " + row[1], guest.machine.count(3), row[2]);
        }
        Guest guest = new Guest(400);
        guest.method(I, 1, 1, R, 21, 0, 189, 176);
        guest.outcome(0, 9, 0, 9);
        CHECK.due("words of 9 R", guest.machine.count(3), 11);
        int[][] most = {{4, 398 * 4}, {8, 398 * 4}, {5, 398 * 2}, {9, 398 * 2}, {10, 398}, {11, 199}};
        for (int[] row : most) {
            guest.method(I, 1, 1, R, 21, 0, 188, row[0], 176);
            int number = guest.machine.count(1) - 1;
            CHECK.same("the most of sort " + row[0], guest.outcome(number, row[1], 0, 9), "0 1");
            CHECK.due("its words", guest.machine.count(3), 400);
            CHECK.same("one more of sort " + row[0], guest.outcome(number, row[1] + 1, 0, 9), "3 0");
            CHECK.same("very many of sort " + row[0], guest.outcome(number, Integer.MAX_VALUE, 0, 9), "3 0");
            CHECK.same("2 to the 30 of sort " + row[0], guest.outcome(number, 1 << 30, 0, 9), "3 0");
        }
    }

    private static void words(String what, int latest, int most, int arguments, int... code) {
        Guest guest = new Guest(60);
        guest.machine.type(0, 2, 2);
        // Method 0 makes an array of 3 words and takes an R away from its only local.
        guest.method(R, 1, 1, R, 4, 188, 10, 58, 0, 4, 188, 10, 176);
        guest.method(R, 1, 2, R, 4, 188, 10, 176);
        CHECK.same(what, guest.runs(arguments, 3, NO, 0, 0, code), "0 0");
        CHECK.due("words of " + what, guest.machine.count(3), latest);
        CHECK.due("most words of " + what, guest.machine.count(4), most);
    }

    private static void wordsReachable() {
        words("one object", 4, 4, 0, 187, 7, 177);
        words("one object left", 4, 4, 0, 187, 7, 87, 187, 7, 177);
        words("two on the stack", 8, 8, 0, 187, 7, 187, 7, 177);
        words("one in a local", 6, 6, 0, 187, 7, 58, 2, 187, 1, 177);
        words("one in a local of another kind then", 4, 4, 0, 187, 7, 58, 2, 3, 54, 2, 187, 7, 177);
        words("one in a local with J then", 4, 4, 0, 187, 7, 58, 2, 9, 55, 2, 187, 7, 177);
        words("one through a field", 12, 12, 0, 187, 7, 58, 0, 25, 0, 187, 7, 181, 7, 1, 187, 7, 177);
        words("one no more in a field", 8, 8, 0, 187, 7, 58, 0, 25, 0, 187, 7, 181, 7, 1, 25, 0, 1, 181, 7, 1, 187, 7, 177);
        words("an I that looks like one", 6, 8, 0, 187, 7, 58, 0, 187, 7, 87, 25, 0, 5, 181, 7, 0, 187, 1, 177);
        words("one through an array", 11, 11, 0, 6, 189, 58, 0, 25, 0, 4, 187, 7, 83, 187, 1, 177);
        words("a circle left", 4, 4, 0, 187, 7, 58, 0, 25, 0, 25, 0, 181, 7, 1, 1, 58, 0, 187, 7, 177);
        words("an array's size on the stack", 9, 9, 0, 187, 7, 6, 188, 10, 177);
        words("an argument of a call", 7, 7, 0, 187, 7, 184, 1, 177);
        words("an argument that the call lets go", 3 + 3, 7, 0, 187, 7, 184, 0, 177);
        words("below the arguments", 8 + 3, 8 + 3, 0, 187, 7, 187, 7, 184, 1, 177);
        words("what a call left", 3 + 4, 7, 0, 1, 184, 1, 187, 7, 177);
        Guest guest = new Guest(60);
        guest.handler(0, 9, 9, 3);
        CHECK.same("an exception", guest.runs(0, 0, NO, 0, 0, 5, 189, 5, 187, 3, 83, 0, 0, 177, 177), "0 0");
        CHECK.due("is made with the stack as before", guest.machine.count(3), 4 + 2 + 2);
        CHECK.same("a cast", guest.runs(0, 0, R, 0, 0, 187, 3, 192, 4, 176), "1 5");
        CHECK.due("has it on the stack", guest.machine.count(3), 4);
        CHECK.same("an array thrown", guest.runs(0, 0, R, 0, 0, 5, 188, 10, 191), "1 5");
        CHECK.due("has it on the stack, too", guest.machine.count(3), 6);
        CHECK.same("below 0", guest.runs(0, 0, R, 0, 0, 187, 0, 2, 189, 176), "1 4");
        CHECK.due("with what is below", guest.machine.count(3), 4);
        guest.method(R, 1, 2, NO, 25, 0, 1, 58, 0, 184, 4, 177);
        guest.method(0, 0, 1, NO, 187, 0, 184, 4, 177);
        CHECK.same("too deep", guest.outcome(5, 0, 0, 99), "1 6");
        CHECK.due("with its argument", guest.machine.count(3), 4);
    }

    /** A local that two ways leave with other kinds still has what the way put there. */
    private static void localsWithoutKind() {
        Guest guest = new Guest(40);
        guest.method(I, 2, 1, NO, 21, 0, 153, 0, 11, 8, 188, 10, 58, 1, 167, 0, 6, 3, 54, 1, 0, 187, 0, 177);
        guest.outcome(0, 1, 0, 99);
        CHECK.due("an R in a local without kind", guest.machine.count(3), 9);
        guest.outcome(0, 0, 0, 99);
        CHECK.due("an I in a local without kind", guest.machine.count(3), 2);
        guest.method(I, 2, 1, NO, 21, 0, 153, 0, 8, 8, 188, 10, 58, 1, 187, 0, 177);
        guest.outcome(1, 1, 0, 99);
        CHECK.due("an R in a local that has nothing else", guest.machine.count(3), 9);
        guest.outcome(1, 0, 0, 99);
        CHECK.due("nothing from the run before", guest.machine.count(3), 2);
        guest.method(R, 2, 1, NO, 187, 0, 87, 25, 0, 58, 1, 177);
        guest.method(0, 1, 1, NO, 8, 188, 10, 184, 2, 1, 184, 2, 177);
        guest.outcome(3, 0, 0, 99);
        CHECK.due("nothing from the call before", guest.machine.count(3), 2);
        CHECK.due("but in that call", guest.machine.count(4), 9);
    }

    private static void noRoom() {
        Guest guest = new Guest(16);
        guest.machine.type(0, 2, 3);
        guest.method(I, 2, 3, NO, 1, 58, 1, 187, 7, 89, 25, 1, 181, 7, 0, 58, 1, 132, 0, 255, 21, 0, 157, 255, 241, 177);
        CHECK.due("the method", guest.machine.count(1), 1);
        CHECK.same("four of 4 words", guest.outcome(0, 4, 0, 99), "0 0");
        CHECK.due("fill it", guest.machine.count(3), 16);
        CHECK.same("five of 4 words", guest.outcome(0, 5, 0, 99), "3 0");
        CHECK.due("the latest that was made", guest.machine.count(3), 16);
        CHECK.due("the most", guest.machine.count(4), 16);
        CHECK.due("steps", guest.machine.steps(), 2 + 4 * 8 + 1);
        guest.method(0, 0, 2, NO, 5, 188, 10, 16, 6, 188, 11, 177);
        CHECK.same("the second is too large", guest.outcome(1, 0, 0, 99), "3 0");
        CHECK.due("the first was made", guest.machine.count(3), 4);
    }

    private static void noRoomForExceptions() {
        Guest guest = new Guest(16);
        guest.handler(0, 8, 8, 0);
        guest.method(I, 1, 3, I, 21, 0, 188, 10, 4, 3, 108, 172, 87, 2, 172);
        CHECK.due("the method", guest.machine.count(1), 1);
        CHECK.same("room for it", guest.outcome(0, 12, 0, 99), "0 -1");
        CHECK.due("words", guest.machine.count(3), 16);
        CHECK.same("no room for it", guest.outcome(0, 13, 0, 99), "3 0");
        CHECK.due("words before", guest.machine.count(3), 15);
    }

    /** Arrays of growing sizes, of which one is kept, all through a full heap: what is kept keeps what it has. */
    private static void sweeping() {
        Guest guest = new Guest(40);
        guest.method(I, 4, 4, I,
            6, 188, 10, 58, 1, 25, 1, 5, 16, 99, 79,
            3, 54, 2,
            21, 2, 188, 8, 58, 3,
            25, 1, 3, 21, 2, 79,
            132, 2, 1, 21, 2, 21, 0, 161, 255, 237,
            25, 1, 5, 46, 25, 1, 3, 46, 96, 172);
        CHECK.due("the method", guest.machine.count(1), 1);
        CHECK.same("kept through sweeps", guest.outcome(0, 50, 0, 20000), "0 148");
        guest.method(0, 2, 3, R,
            4, 189, 58, 0, 25, 0, 3, 187, 3, 83,
            3, 54, 1,
            187, 1, 87, 132, 1, 1, 21, 1, 17, 3, 232, 161, 255, 245,
            25, 0, 3, 50, 192, 3, 176);
        CHECK.same("a reference kept through sweeps", guest.outcome(1, 0, 0, 20000), "0 1");
        CHECK.due("the most words then", guest.machine.count(4), 3 + 2 + 2);
    }
}
