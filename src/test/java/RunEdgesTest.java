/**
 * The edges of runs: frames, handlers, fuel and what is told behind them ('3 JUDGED, RUN' and promises 6 to 9): each sentence
 * that names one stands, in its own words, above the test that would fail without it.
 */
public final class RunEdgesTest {
    private static final int NO = 0, I = 1, J = 2, R = 3;
    private static final int LEAST = Integer.MIN_VALUE, MOST = Integer.MAX_VALUE;
    private static final long LEAST_J = Long.MIN_VALUE, MOST_J = Long.MAX_VALUE;
    private static final Check CHECK = new Check("RunEdgesTest");

    public static void main(String[] args) {
        argumentsByTurns();
        seventeenFrames();
        rangesOfHandlers();
        theFirstHandler();
        framesAbove();
        theStackHasItAlone();
        fuel();
        theLastInstruction();
        results();
        steps();
        wordsOfTheLatest();
        CHECK.end();
    }

    private static void due(String what, String want, int arguments, int result, long a, long b, int... code) {
        CHECK.same(what, Guest.alone(arguments, 4, result, a, b, code), want);
    }

    /** "I and J have a and b, by turns (a for the first one that is no R; the lowest 32 bits for I), R none" */
    private static void argumentsByTurns() {
        long a = 0x80000000L + (5L << 40);
        long b = LEAST_J + 7;
        for (int digits = 1; digits < 256; digits++) {
            long turn = a;
            for (int i = 0; i < 4 && (digits >> 2 * i & 3) != 0; i++) {
                int kind = digits >> 2 * i & 3;
                long want = kind == R ? 0 : kind == I ? (int) turn : turn;
                if (kind != R) turn = turn == a ? b : a;
                int[] code = {kind == I ? 21 : kind == J ? 22 : 25, i, kind == I ? 172 : kind == J ? 173 : 176};
                due("argument " + i + " of " + digits, "0 " + want, digits, kind, a, b, code);
            }
        }
    }

    /** "6: a method would be the 17th frame" */
    private static void seventeenFrames() {
        Guest guest = new Guest(40);
        guest.method(I, 1, 2, I, 21, 0, 154, 0, 5, 3, 172, 21, 0, 2, 96, 184, 0, 4, 96, 172);
        for (int calls = 0; calls <= 20; calls++) {
            CHECK.same(calls + " calls deep", guest.outcome(0, calls, 0, 999), calls <= 15 ? "0 " + calls : "1 6");
        }
        CHECK.same("fifteen calls deep once more", guest.outcome(0, 15, 0, 999), "0 15");
        guest = new Guest(40);
        guest.handler(10, 11, 13, 6);
        guest.method(I, 1, 2, I, 21, 0, 154, 0, 5, 3, 172, 21, 0, 0, 184, 0, 172, 87, 21, 0, 172);
        CHECK.same("caught in the sixteenth frame", guest.outcome(0, 16, 0, 999), "0 16");
        CHECK.due("steps of that", guest.machine.steps(), 16 * 5 + 3 + 15);
    }

    /** "whose range has the instruction's place" */
    private static void rangesOfHandlers() {
        // What throws stands at place 4; it is 3 bytes long.
        int[] code = {0, 0, 0, 1, 180, 7, 0, 172, 87, 8, 172};
        for (int from = 0; from < 8; from++) {
            for (int to = from + 1; to <= 8; to++) {
                Guest guest = new Guest(40);
                guest.machine.type(0, 1, 0);
                guest.handler(from, to, 8, 2);
                CHECK.same("a handler over " + from + " .. " + to, guest.runs(0, 0, I, 0, 0, code),
                    from <= 4 && 4 < to ? "0 5" : "1 2");
            }
        }
        int[] most = new int[200];
        most[0] = 167;
        most[2] = 198;
        most[3] = 87;
        most[4] = 8;
        most[5] = 172;
        most[198] = 1;
        most[199] = 191;
        for (int from : new int[] {0, 198, 199}) {
            for (int to : new int[] {199, 200}) {
                if (to <= from) continue;
                Guest guest = new Guest(40);
                guest.handler(from, to, 3, 0);
                CHECK.same("a handler over " + from + " .. " + to + " of 200", guest.runs(0, 0, I, 0, 0, most),
                    to == 200 ? "0 5" : "1 2");
            }
        }
    }

    /** "the first handler of the frame ..., and of whose class it is", "HANDLERS (up to 8, in their order)" */
    private static void theFirstHandler() {
        // 7 handlers that do not catch an object of class 8 (below 7, below 2), and one that does, at every place.
        for (int catches : new int[] {8, 7, 2, 0}) {
            for (int which = 0; which < 8; which++) {
                Guest guest = new Guest(40);
                guest.machine.type(2, 0, 0);
                guest.machine.type(7, 0, 0);
                guest.machine.type(8, 0, 0);
                int[] others = {1, 3, 4, 5, 6, 9, 1, 3};
                for (int i = 0; i < 8; i++) guest.handler(0, 3, i == which ? 6 : 3, i == which ? catches : others[i]);
                CHECK.same("handler " + which + " for " + catches,
                    guest.runs(0, 0, I, 0, 0, 187, 8, 191, 87, 3, 172, 87, 8, 172), "0 5");
            }
        }
        // Eight that all catch: the first one does, also where a later one is for the class itself.
        for (int first : new int[] {0, 2, 7}) {
            Guest guest = new Guest(40);
            guest.machine.type(2, 0, 0);
            guest.machine.type(7, 0, 0);
            guest.handler(0, 3, 6, first);
            for (int i = 1; i < 8; i++) guest.handler(0, 3, 3, 8);
            CHECK.same("the first is for " + first, guest.runs(0, 0, I, 0, 0, 187, 8, 191, 87, 3, 172, 87, 8, 172), "0 5");
        }
    }

    /** "else the frame goes, likewise above (place of the call)" */
    private static void framesAbove() {
        // The call stands at places 2 and 3.
        int[] code = {0, 0, 184, 0, 0, 3, 172, 87, 8, 172};
        for (int from = 0; from < 7; from++) {
            for (int to = from + 1; to <= 7; to++) {
                Guest other = new Guest(40);
                other.method(0, 0, 1, NO, 1, 191);
                other.handler(from, to, 7, 2);
                CHECK.same("a handler over " + from + " .. " + to + " of a call", other.runs(0, 0, I, 0, 0, code),
                    from <= 2 && 2 < to ? "0 5" : "1 2");
            }
        }
        // Through fifteen frames, of which the first alone catches; then it calls once more.
        Guest deep = new Guest(40);
        deep.method(I, 1, 2, NO, 21, 0, 154, 0, 5, 1, 191, 21, 0, 2, 96, 184, 0, 177);
        deep.handler(3, 5, 8, 2);
        deep.method(I, 1, 2, I, 3, 21, 0, 184, 0, 172, 0, 0, 193, 2, 4, 96, 172);
        CHECK.same("from the sixteenth frame", deep.outcome(1, 14, 0, 999), "0 2");
        CHECK.same("and beyond", deep.outcome(1, 15, 0, 999), "1 6");
        // A handler below that is for another class, or whose range has not the place, lets it go.
        Guest below = new Guest(40);
        below.handler(0, 2, 2, 1).handler(2, 3, 2, 2);
        below.method(0, 0, 1, NO, 1, 191, 87, 177);
        below.handler(0, 2, 4, 0);
        below.method(0, 0, 1, I, 184, 0, 3, 172, 193, 2, 172);
        CHECK.same("past handlers below", below.outcome(1, 0, 0, 99), "0 1");
    }

    /** "the stack has it alone" */
    private static void theStackHasItAlone() {
        Guest guest = new Guest(40);
        // Eleven values below the one that is thrown; the handler fills the stack again.
        guest.handler(0, 13, 13, 0);
        guest.method(0, 0, 12, I, 9, 3, 1, 9, 3, 1, 9, 3, 1, 9, 3, 1, 191, 193, 2, 4, 4, 4, 4, 4, 4, 4, 4, 4, 4, 4,
            96, 96, 96, 96, 96, 96, 96, 96, 96, 96, 96, 172);
        CHECK.same("a stack that was full", guest.outcome(0, 0, 0, 99), "0 12");
        Guest heap = new Guest(40);
        heap.handler(0, 6, 6, 0);
        heap.method(0, 0, 3, NO, 8, 189, 187, 1, 0, 191, 187, 0, 177);
        CHECK.same("caught over an array", heap.outcome(0, 0, 0, 99), "0 0");
        CHECK.due("the array is let go", heap.machine.count(3), 4);
    }

    /** "A RUN counts each instruction that begins; behind as many as FUEL it ends.", "fuel is not 0 .. 20000" */
    private static void fuel() {
        Guest guest = new Guest(40);
        guest.method(I, 1, 1, I, 132, 0, 255, 21, 0, 157, 255, 251, 21, 0, 172);
        for (int turns : new int[] {1, 2, 3, 100, 6666}) {
            int needed = 3 * turns + 2;
            for (int fuel : new int[] {0, 1, needed - 3, needed - 2, needed - 1, needed, needed + 1, 20000}) {
                if (fuel > 20000) continue;
                CHECK.same(turns + " turns with fuel " + fuel, guest.outcome(0, turns, 0, fuel), fuel < needed ? "2 0" : "0 0");
                CHECK.due("steps then", guest.machine.steps(), Math.min(fuel, needed));
            }
        }
        guest.outcome(0, 6667, 0, 20000);
        CHECK.due("6667 turns are too many", guest.machine.steps(), 20000);
    }

    /** "OUTCOMES: 0 the method ended; 1 thrown out of it; 2 no fuel; 3 no room.", each by the last instruction that fuel allows */
    private static void theLastInstruction() {
        int[][] codes = {{8, 172}, {1, 191}, {17, 127, 255, 188, 10, 190, 172}, {4, 3, 108, 172}, {2, 189, 190, 172}};
        String[] wants = {"0 5", "1 2", "3 0", "1 1", "1 4"};
        int[] needed = {2, 2, 2, 3, 2};
        for (int i = 0; i < codes.length; i++) {
            Guest guest = new Guest(40);
            guest.method(0, 0, 2, I, codes[i]);
            CHECK.same("code " + i + " with all its fuel", guest.outcome(0, 0, 0, needed[i]), wants[i]);
            CHECK.due("steps of that", guest.machine.steps(), needed[i]);
            CHECK.same("code " + i + " with one less", guest.outcome(0, 0, 0, needed[i] - 1), "2 0");
            CHECK.due("steps of that", guest.machine.steps(), needed[i] - 1);
            // What a handler catches with the last of the fuel is not thrown out.
            guest.handler(0, codes[i].length, codes[i].length, 0);
            guest.method(0, 0, 2, I, Guest.join(codes[i], new int[] {191}));
            String caught = wants[i].startsWith("1") ? "2 0" : wants[i];
            CHECK.same("code " + i + " with a handler", guest.outcome(1, 0, 0, needed[i]), caught);
        }
        Guest guest = new Guest(40);
        guest.method(0, 0, 0, NO, 177);
        guest.method(0, 0, 0, NO, 184, 0, 177);
        CHECK.same("a call with the last of the fuel", guest.outcome(1, 0, 0, 1), "2 0");
        CHECK.same("an end of a call with the last of the fuel", guest.outcome(1, 0, 0, 2), "2 0");
        CHECK.same("an end behind a call", guest.outcome(1, 0, 0, 3), "0 0");
    }

    /**
     * "The result of the latest run with outcome 0 (an R: 1, none: 0; nothing: 0); of outcome 1 the class of what was
     * thrown; else 0."
     */
    private static void results() {
        Guest guest = new Guest(16);
        guest.machine.type(6, 0, 0);
        guest.method(I, 1, 1, I, 21, 0, 172);
        guest.method(J, 1, 1, J, 22, 0, 173);
        guest.method(R, 1, 1, R, 25, 0, 176);
        guest.method(0, 0, 1, R, 187, 0, 176);
        guest.method(0, 0, 1, R, 3, 189, 176);
        guest.method(I, 1, 2, NO, 21, 0, 177);
        guest.method(0, 0, 1, NO, 187, 7, 191);
        guest.method(0, 0, 1, NO, 187, 0, 191);
        guest.method(0, 0, 0, NO, 167, 0, 0);
        guest.method(0, 0, 1, R, 16, 15, 189, 176);
        // Each behind a run whose result is not 0.
        String[] wants = {"0 " + LEAST, "0 " + (1L << 31), "0 0", "0 1", "0 1", "0 0", "1 7", "1 0", "2 0", "3 0"};
        for (int i = 0; i < wants.length; i++) {
            CHECK.same("a run before " + i, guest.outcome(0, -1, 0, 9), "0 -1");
            CHECK.same("the result of " + i, guest.outcome(i, 1L << 31, 5, 99), wants[i]);
            CHECK.due("the result of " + i + " once more", guest.machine.result(), Long.parseLong(wants[i].substring(2)));
        }
        for (long a : new long[] {LEAST_J, -1, 0, 1, MOST_J, 1L << 32}) {
            CHECK.same("J " + a, guest.outcome(1, a, 0, 9), "0 " + a);
            CHECK.same("I " + a, guest.outcome(0, a, 0, 9), "0 " + (int) a);
        }
    }

    /** "How many instructions the latest run began." */
    private static void steps() {
        Guest guest = new Guest(16);
        guest.method(0, 0, 0, NO, 177);
        guest.method(0, 0, 1, NO, 0, 0, 1, 191);
        guest.method(0, 0, 1, NO, 0, 16, 15, 189, 0, 177);
        guest.method(0, 0, 0, NO, 167, 0, 0);
        int[] fuels = {9, 9, 9, 7, 0, 1};
        int[] methods = {0, 1, 2, 3, 3, 0};
        int[] wants = {1, 4, 3, 7, 0, 1};
        for (int i = 0; i < wants.length; i++) {
            guest.outcome(methods[i], 0, 0, fuels[i]);
            CHECK.due("steps of " + methods[i] + " with " + fuels[i], guest.machine.steps(), wants[i]);
        }
    }

    /**
     * "3 words that were reachable when the latest run made something the latest time, with that (0 if it made nothing), 4
     * the most of these"
     */
    private static void wordsOfTheLatest() {
        Guest guest = new Guest(40);
        guest.method(0, 0, 2, NO, 177);
        guest.method(0, 0, 2, NO, 16, 38, 188, 10, 87, 187, 0, 177);
        guest.method(0, 0, 2, NO, 16, 38, 188, 10, 187, 0, 177);
        guest.method(0, 0, 2, NO, 16, 39, 188, 10, 177);
        guest.method(0, 0, 2, NO, 187, 0, 167, 0, 0);
        guest.method(0, 0, 2, NO, 1, 191);
        guest.method(0, 0, 2, NO, 187, 0, 187, 0, 191);
        int[][] rows = {{1, 9, 2, 40}, {0, 9, 0, 0}, {1, 0, 0, 0}, {2, 9, 40, 40}, {3, 9, 0, 0}, {1, 2, 40, 40},
            {1, 3, 40, 40}, {1, 4, 2, 40},
            {4, 9, 2, 2}, {5, 9, 2, 2}, {6, 9, 4, 4}, {5, 1, 0, 0}};
        for (int[] row : rows) {
            guest.outcome(row[0], 0, 0, row[1]);
            CHECK.due("the latest words of " + row[0] + " with fuel " + row[1], guest.machine.count(3), row[2]);
            CHECK.due("the most words of " + row[0] + " with fuel " + row[1], guest.machine.count(4), row[3]);
        }
        guest.outcome(6, 0, 0, 99);
        guest.method(0, 0, 0, NO, 177);
        CHECK.due("words stay until the next run", guest.machine.count(3), 4);
    }
}
