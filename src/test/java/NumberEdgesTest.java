import java.util.Arrays;

/**
 * The edges of what instructions do with numbers, stacks and ways ('Terms' and '2 INSTRUCTIONS'): each sentence
 * that names one stands, in its own words, above the test that would fail without it.
 */
public final class NumberEdgesTest {
    private static final int NO = 0, I = 1, J = 2, R = 3;
    private static final int LEAST = Integer.MIN_VALUE, MOST = Integer.MAX_VALUE;
    private static final long LEAST_J = Long.MIN_VALUE, MOST_J = Long.MAX_VALUE;
    private static final Check CHECK = new Check("NumberEdgesTest");

    public static void main(String[] args) {
        constants();
        narrowNumbersWrapAround();
        wideNumbersWrapAround();
        quotientsToZero();
        movesByTheLowestBits();
        localsMoreBy();
        conversions();
        comparisons();
        referencesCompared();
        placesToGoTo();
        valuesExchanged();
        whatLiesBelowStays();
        argumentsOfACall();
        CHECK.end();
    }

    private static void due(String what, String want, int arguments, int result, long a, long b, int... code) {
        CHECK.same(what, Guest.alone(arguments, 4, result, a, b, code), want);
    }

    /** "2 .. 8 I -1 .. 5. 9, 10 J 0, 1. 16 b: I (a sign); 17 b b: I of two bytes (a sign)." */
    private static void constants() {
        for (int op = 2; op <= 8; op++) due("constant " + op, "0 " + (op - 3), 0, I, 0, 0, op, 172);
        due("J 0", "0 0", 0, J, 0, 0, 9, 173);
        due("J 1", "0 1", 0, J, 0, 0, 10, 173);
        int[][] bytes = {{0, 0}, {1, 1}, {127, 127}, {128, -128}, {129, -127}, {255, -1}};
        for (int[] row : bytes) due("16 " + row[0], "0 " + row[1], 0, I, 0, 0, 16, row[0], 172);
        int[][] pairs = {{0, 0, 0}, {0, 127, 127}, {0, 128, 128}, {0, 255, 255}, {1, 0, 256}, {127, 255, 32767}, {128, 0, -32768},
            {128, 1, -32767}, {255, 0, -256}, {255, 127, -129}, {255, 128, -128}, {255, 255, -1}};
        for (int[] row : pairs) due("17 " + row[0] + " " + row[1], "0 " + row[2], 0, I, 0, 0, 17, row[0], row[1], 172);
    }

    private static void narrow(int op, int a, int b, int want) {
        due(op + " of " + a + ", " + b, "0 " + want, Guest.kinds(I, I), I, a, b, 21, 0, 21, 1, op, 172);
    }

    private static void wide(int op, long a, long b, long want) {
        due(op + " of " + a + ", " + b, "0 " + want, Guest.kinds(J, J), J, a, b, 22, 0, 22, 1, op, 173);
    }

    /** "I (32 bits)" */
    private static void narrowNumbersWrapAround() {
        narrow(96, MOST, 1, LEAST);
        narrow(96, LEAST, -1, MOST);
        narrow(96, LEAST, LEAST, 0);
        narrow(96, MOST, MOST, -2);
        narrow(100, LEAST, 1, MOST);
        narrow(100, MOST, -1, LEAST);
        narrow(100, 0, LEAST, LEAST);
        narrow(104, 65536, 65536, 0);
        narrow(104, 46341, 46341, -2147479015);
        narrow(104, LEAST, -1, LEAST);
        narrow(104, MOST, MOST, 1);
        narrow(108, LEAST, -1, LEAST);
        narrow(112, LEAST, -1, 0);
        due("minus the least", "0 " + LEAST, I, I, LEAST, 0, 21, 0, 116, 172);
        due("minus the most", "0 " + (LEAST + 1), I, I, MOST, 0, 21, 0, 116, 172);
        due("minus 0", "0 0", I, I, 0, 0, 21, 0, 116, 172);
        due("a sum beyond, made a J", "0 " + LEAST, I, J, MOST, 0, 21, 0, 4, 96, 133, 173);
    }

    /** "J (64 bits)" */
    private static void wideNumbersWrapAround() {
        wide(97, MOST_J, 1, LEAST_J);
        wide(97, LEAST_J, -1, MOST_J);
        wide(97, MOST, 1, 1L << 31);
        wide(97, 0xFFFFFFFFL, 1, 1L << 32);
        wide(101, LEAST_J, 1, MOST_J);
        wide(101, MOST_J, -1, LEAST_J);
        wide(101, 0, LEAST_J, LEAST_J);
        wide(101, LEAST, 1, -(1L << 31) - 1);
        wide(105, 1L << 32, 1L << 32, 0);
        wide(105, LEAST_J, -1, LEAST_J);
        wide(105, MOST_J, MOST_J, 1);
        wide(109, LEAST_J, -1, LEAST_J);
        wide(113, LEAST_J, -1, 0);
        wide(109, LEAST, -1, 1L << 31);
        due("minus the least J", "0 " + LEAST_J, J, J, LEAST_J, 0, 22, 0, 117, 173);
        due("minus the least I as a J", "0 " + (1L << 31), J, J, LEAST, 0, 22, 0, 117, 173);
        wide(127, LEAST_J, -1, LEAST_J);
        wide(129, LEAST_J, 1, LEAST_J + 1);
        wide(131, LEAST_J, -1, MOST_J);
    }

    /** "quotient (to 0), rest", and "1: quotient or rest by 0" */
    private static void quotientsToZero() {
        int[][] rows = {{7, 2, 3, 1}, {-7, 2, -3, -1}, {7, -2, -3, 1}, {-7, -2, 3, -1}, {1, 2, 0, 1}, {-1, 2, 0, -1}, {0, 5, 0, 0},
            {LEAST, LEAST, 1, 0}, {MOST, LEAST, 0, MOST}, {LEAST, MOST, -1, -1}, {LEAST, 1, LEAST, 0}, {LEAST, 2, LEAST / 2, 0}};
        for (int[] row : rows) {
            narrow(108, row[0], row[1], row[2]);
            narrow(112, row[0], row[1], row[3]);
            wide(109, row[0], row[1], row[2]);
            wide(113, row[0], row[1], row[3]);
        }
        for (int a : new int[] {0, 1, -1, LEAST, MOST}) {
            for (int op : new int[] {108, 112}) {
                due(op + " of " + a + " by 0", "1 1", I, I, a, 0, 21, 0, 3, op, 172);
                // The lowest 32 bits of this are 0.
                due(op + " of " + a + " by 2 to the 32", "1 1", Guest.kinds(I, I), I, a, 1L << 32, 21, 0, 21, 1, op, 172);
            }
            for (int op : new int[] {109, 113}) {
                due(op + " of " + a + " by 0", "1 1", J, J, a, 0, 22, 0, 9, op, 173);
            }
        }
        wide(109, LEAST_J, 1L << 32, LEAST);
        wide(113, 5, 1L << 32, 5);
    }

    /** "by the lowest 5 bits of I", "J by the lowest 6 bits of I" */
    private static void movesByTheLowestBits() {
        int[] by = {0, 1, 5, 30, 31, 32, 33, 62, 63, 64, 65, 95, 96, 127, 128, -1, -31, -32, -33, -64, -65, LEAST, MOST};
        for (int a : new int[] {1, -1, LEAST, MOST, 0x12345678}) {
            for (int b : by) {
                int places = Math.floorMod(b, 32);
                narrow(120, a, b, (int) ((long) a << places));
                narrow(122, a, b, (int) Math.floorDiv((long) a, 1L << places));
                narrow(124, a, b, (int) ((a & 0xFFFFFFFFL) / (1L << places)));
            }
        }
        for (long a : new long[] {1, -1, LEAST_J, MOST_J, 0x123456789ABCDEFL}) {
            for (int b : by) {
                int places = Math.floorMod(b, 64);
                long up = a;
                long down = a;
                long zeros = a;
                for (int i = 0; i < places; i++) {
                    up *= 2;
                    down = Math.floorDiv(down, 2);
                    zeros = Long.divideUnsigned(zeros, 2);
                }
                moved(121, a, b, up);
                moved(123, a, b, down);
                moved(125, a, b, zeros);
            }
        }
    }

    private static void moved(int op, long a, int by, long want) {
        due(op + " of " + a + ", " + by, "0 " + want, Guest.kinds(J, I), J, a, by, 22, 0, 21, 1, op, 173);
    }

    /** "132 n b: local n (I) more by b (a sign)" */
    private static void localsMoreBy() {
        int[][] rows = {{0, 0, 0}, {0, 127, 127}, {0, 128, -128}, {0, 255, -1}, {MOST, 1, LEAST}, {MOST, 127, LEAST + 126},
            {LEAST, 255, MOST}, {LEAST, 128, MOST - 127}, {MOST - 127, 127, MOST}, {LEAST + 128, 128, LEAST}};
        for (int[] row : rows) {
            due("132 of " + row[0] + " by " + row[1], "0 " + row[2], I, J, row[0], 0, 132, 0, row[1], 21, 0, 133, 173);
        }
        for (int n = 0; n < 16; n++) {
            CHECK.same("132 of local " + n, Guest.alone(0, 16, I, 0, 0, 7, 54, n, 132, n, 128, 21, n, 172), "0 -124");
        }
    }

    private static void converted(int op, long a, long want) {
        boolean fromWide = op == 136;
        boolean toWide = op == 133;
        due(op + " of " + a, "0 " + want, fromWide ? J : I, toWide ? J : I, a, 0, fromWide ? 22 : 21, 0, op, toWide ? 173 : 172);
    }

    /** "133 I to J; 136 J to I; 145, 146, 147 I to a byte, character, short and again to I" */
    private static void conversions() {
        long[][] rows = {{133, LEAST, LEAST}, {133, MOST, MOST}, {133, -1, -1}, {133, 1L << 31, LEAST}, {133, 1L << 32, 0},
            {136, 1L << 31, LEAST}, {136, 1L << 32, 0}, {136, (1L << 32) - 1, -1}, {136, LEAST_J, 0}, {136, MOST_J, -1},
            {136, -(1L << 31) - 1, MOST}, {145, 127, 127}, {145, 128, -128}, {145, 255, -1}, {145, 256, 0}, {145, -128, -128},
            {145, -129, 127}, {145, LEAST, 0}, {145, MOST, -1}, {146, 65535, 65535}, {146, 65536, 0}, {146, -1, 65535},
            {146, 32768, 32768}, {146, LEAST, 0}, {146, MOST, 65535}, {147, 32767, 32767}, {147, 32768, -32768}, {147, 65535, -1},
            {147, 65536, 0}, {147, -32768, -32768}, {147, -32769, 32767}, {147, LEAST, 0}, {147, MOST, -1}};
        for (long[] row : rows) converted((int) row[0], row[1], row[2]);
    }

    /** "148 J J to -1, 0, 1", "153 .. 158 ... 159 .. 164": where a difference would wrap around */
    private static void comparisons() {
        long[] wide = {LEAST_J, LEAST_J + 1, LEAST - 1L, LEAST, -1, 0, 1, MOST, MOST + 1L, 1L << 32, MOST_J - 1, MOST_J};
        for (int i = 0; i < wide.length; i++) {
            for (int k = 0; k < wide.length; k++) {
                due("148 of " + wide[i] + ", " + wide[k], "0 " + Integer.signum(i - k), Guest.kinds(J, J), I, wide[i],
                    wide[k], 22, 0, 22, 1, 148, 172);
            }
        }
        int[] narrow = {LEAST, LEAST + 1, -1, 0, 1, MOST - 1, MOST};
        for (int i = 0; i < narrow.length; i++) {
            for (int k = 0; k < narrow.length; k++) {
                boolean[] goes = {i == k, i != k, i < k, i >= k, i > k, i <= k};
                for (int test = 0; test < 6; test++) {
                    due(159 + test + " of " + narrow[i] + ", " + narrow[k], goes[test] ? "0 1" : "0 0", Guest.kinds(I, I), I,
                        narrow[i],
                        narrow[k], 21, 0, 21, 1, 159 + test, 0, 5, 3, 172, 4, 172);
                    if (narrow[k] != 0) continue;
                    due(153 + test + " of " + narrow[i], goes[test] ? "0 1" : "0 0", I, I, narrow[i], 0,
                        21, 0, 153 + test, 0, 5, 3, 172, 4, 172);
                }
            }
        }
    }

    /** "165, 166 two R the same, or not; 198, 199 R is none, or not; 167 always" */
    private static void referencesCompared() {
        // Two R: none twice, none and one, one and none, two that are alike, one twice, an array of nothing and another.
        int[][] pairs = {{1, 1}, {1, 187, 0}, {187, 0, 1}, {187, 0, 187, 0}, {187, 0, 89}, {3, 189, 3, 189}, {3, 189, 89}};
        boolean[] same = {true, false, false, false, true, false, true};
        for (int i = 0; i < pairs.length; i++) {
            int[] behind = {0, 5, 3, 172, 4, 172};
            due("165 of pair " + i, same[i] ? "0 1" : "0 0", 0, I, 0, 0, Guest.join(pairs[i], new int[] {165}, behind));
            due("166 of pair " + i, same[i] ? "0 0" : "0 1", 0, I, 0, 0, Guest.join(pairs[i], new int[] {166}, behind));
            boolean none = i == 0 || i == 2;
            due("198 of pair " + i, none ? "0 1" : "0 0", 0, I, 0, 0, Guest.join(pairs[i], new int[] {198}, behind));
            due("199 of pair " + i, none ? "0 0" : "0 1", 0, I, 0, 0, Guest.join(pairs[i], new int[] {199}, behind));
            due("167 over pair " + i, "0 1", 0, I, 0, 0, Guest.join(pairs[i], new int[] {167}, behind));
        }
    }

    /** "(TO: two bytes with a sign, from the instruction's place.)" */
    private static void placesToGoTo() {
        for (int from : new int[] {3, 100, 193}) {
            for (int target : new int[] {3, 4, 5, 64, 99, 103, 127, 128, 129, 189, 195, 196}) {
                if (target > from - 4 && target < from + 4) continue;
                // From 0 to the one way, and from there to the one place that does not tell -1.
                int[] code = new int[200];
                for (int i = 3; i < 198; i += 2) {
                    code[i] = 2;
                    code[i + 1] = 172;
                }
                System.arraycopy(new int[] {167, 0, from}, 0, code, 0, 3);
                System.arraycopy(new int[] {167, target - from >> 8 & 255, target - from & 255}, 0, code, from, 3);
                System.arraycopy(new int[] {8, 172}, 0, code, target, 2);
                due("a way from " + from + " to " + target, "0 5", 0, I, 0, 0, code);
            }
        }
        int[] far = new int[200];
        System.arraycopy(new int[] {21, 0, 154, 0, 195, 8, 172}, 0, far, 0, 7);
        System.arraycopy(new int[] {167, 255, 59}, 0, far, 197, 3);
        due("the farthest way back", "2 0", I, I, 1, 0, far);
        due("the farthest way on", "0 5", I, I, 0, 0, far);
    }

    /** "87 one value away (I, R); 88 a J away; 89 I or R twice; 95 two of I, R exchanged" */
    private static void valuesExchanged() {
        due("95 of I, I", "0 -3", 0, I, 0, 0, 8, 5, 95, 100, 172);
        due("95 of I, R, what is on top", "0 4", 0, I, 0, 0, 187, 3, 7, 95, 87, 172);
        due("95 of I, R, what is below", "0 1", 0, R, 0, 0, 187, 3, 7, 95, 95, 87, 176);
        due("95 of R, I, what is on top", "0 1", 0, R, 0, 0, 7, 187, 3, 95, 87, 176);
        due("95 of R, none", "0 1", 0, R, 0, 0, 187, 3, 1, 95, 176);
        due("95 of none, R", "0 0", 0, R, 0, 0, 1, 187, 3, 95, 176);
        due("95 below a J", "0 1", 0, J, 0, 0, 10, 187, 3, 7, 95, 87, 87, 173);
        due("95 twelve deep", "0 2", 0, I, 0, 0, 4, 4, 4, 4, 4, 4, 4, 4, 4, 4, 5, 4, 95, 172);
        due("89 twelve deep", "0 3", 0, I, 0, 0, 4, 4, 4, 4, 4, 4, 4, 4, 4, 4, 6, 89, 172);
        due("87 of I over I", "0 4", 0, I, 0, 0, 7, 8, 87, 172);
        due("88 over I", "0 4", 0, I, 0, 0, 7, 10, 88, 172);
        due("89 of R is the same R", "0 1", 0, I, 0, 0, 187, 3, 89, 165, 0, 5, 3, 172, 4, 172);
    }

    /** "from what is on the stack, to what comes there": no more than that is taken away, and no more comes */
    private static void whatLiesBelowStays() {
        // Code that leaves an I, a J, an R or nothing; class 7 has an I and an R.
        String[] rows = {"I 8 188 10 190", "I 8 188 10 3 46", "J 8 188 11 3 47", "R 8 189 3 50", "I 8 188 8 3 51", "I 8 188 4 3 51",
            "I 8 188 5 3 52", "I 8 188 9 3 53", "- 8 188 10 3 4 79", "- 8 188 11 3 10 80", "- 8 189 3 1 83", "- 8 188 8 3 4 84",
            "- 8 188 4 3 4 84", "- 8 188 5 3 4 85", "- 8 188 9 3 4 86", "I 5 4 96", "I 5 4 100", "I 5 4 104", "I 5 4 108",
            "I 5 4 112",
            "I 5 116", "J 9 10 97", "J 9 10 101", "J 9 10 105", "J 9 10 109", "J 9 10 113", "J 10 117", "I 5 4 120", "I 5 4 122",
            "I 5 4 124", "J 10 4 121", "J 10 4 123", "J 10 4 125", "I 5 4 126", "I 5 4 128", "I 5 4 130", "J 10 9 127",
            "J 10 9 129",
            "J 10 9 131", "J 5 133", "I 10 136", "I 5 145", "I 5 146", "I 5 147", "I 9 10 148", "- 5 153 0 3", "- 5 154 0 3",
            "- 5 155 0 3", "- 5 156 0 3", "- 5 157 0 3", "- 5 158 0 3", "- 5 4 159 0 3", "- 5 4 160 0 3", "- 5 4 161 0 3",
            "- 5 4 162 0 3", "- 5 4 163 0 3", "- 5 4 164 0 3", "- 1 1 165 0 3", "- 1 1 166 0 3", "- 1 198 0 3", "- 1 199 0 3",
            "- 167 0 3", "- 0", "- 5 87", "- 1 87", "- 9 88", "I 5 54 1 21 1", "J 9 55 1 22 1", "R 1 58 1 25 1", "- 5 54 1 132 1 9",
            "I 187 7 180 7 0", "R 187 7 180 7 1", "- 187 7 5 181 7 0", "- 187 7 1 181 7 1", "R 187 7", "R 5 188 10", "R 5 189",
            "R 187 7 192 7", "I 187 7 193 7", "I 16 9", "I 17 9 9"};
        for (String row : rows) {
            int[] code = Arrays.stream(row.substring(2).split(" ")).mapToInt(Integer::parseInt).toArray();
            char left = row.charAt(0);
            int[] gone = left == '-' ? new int[0] : new int[] {left == 'J' ? 88 : 87};
            below(row, I, "0 77", Guest.join(new int[] {16, 66, 16, 77}, code, gone, new int[] {172}));
            below(row, J, "0 1", Guest.join(new int[] {9, 10}, code, gone, new int[] {173}));
            below(row, R, "0 1", Guest.join(new int[] {1, 187, 3}, code, gone, new int[] {176}));
            below(row, I, "0 66", Guest.join(new int[] {16, 66, 16, 77}, code, gone, new int[] {87, 172}));
        }
    }

    private static void below(String what, int result, String want, int[] code) {
        Guest guest = new Guest(40);
        guest.machine.type(0, 2, 2);
        CHECK.same("what lies below " + what, guest.runs(0, 4, result, 0, 0, code), want);
    }

    /** "184 m: a method with its arguments (the last one on top) to its result", with none and with all four */
    private static void argumentsOfACall() {
        int[] loads = {0, 21, 22, 25};
        int[] ends = {177, 172, 173, 176};
        int[][] kinds = {{I, J, R, I}, {R, R, I, J}, {J, J, J, J}, {I, I, I, I}};
        int[][] pushes = {{4, 9, 187, 3, 6}, {1, 187, 3, 5, 10}, {9, 10, 9, 10}, {4, 5, 6, 7}};
        long[][] wants = {{1, 0, 1, 3}, {0, 1, 2, 1}, {0, 1, 0, 1}, {1, 2, 3, 4}};
        for (int row = 0; row < kinds.length; row++) {
            for (int told = 0; told < 4; told++) {
                int kind = kinds[row][told];
                Guest guest = new Guest(40);
                guest.method(Guest.kinds(kinds[row]), 4, 1, kind, loads[kind], told, ends[kind]);
                CHECK.same("argument " + told + " of " + Arrays.toString(kinds[row]),
                    guest.runs(0, 0, kind, 0, 0, Guest.join(pushes[row], new int[] {184, 0, ends[kind]})), "0 " + wants[row][told]);
                // What lies below the arguments is as before.
                CHECK.same("what lies below " + Arrays.toString(kinds[row]), guest.runs(0, 0, I, 0, 0,
                    Guest.join(new int[] {8}, pushes[row], new int[] {184, 0, kind == J ? 88 : 87, 172})), "0 5");
            }
        }
        Guest guest = new Guest(40);
        guest.method(0, 0, 0, NO, 177);
        CHECK.same("no arguments and no result", guest.runs(0, 0, I, 0, 0, 7, 184, 0, 172), "0 4");
        guest.method(0, 0, 1, J, 10, 173);
        guest.method(R, 1, 2, R, 1, 25, 0, 176);
        CHECK.same("a call to an R", guest.runs(0, 0, R, 0, 0, 187, 3, 184, 3, 176), "0 1");
        CHECK.same("a call to none", guest.runs(0, 0, R, 0, 0, 187, 3, 1, 184, 3, 176), "0 0");
        CHECK.same("a call on a stack that its result fills",
            guest.runs(0, 0, J, 0, 0, 1, 1, 1, 1, 1, 1, 1, 1, 1, 1, 1, 184, 2, 173), "0 1");
    }
}
