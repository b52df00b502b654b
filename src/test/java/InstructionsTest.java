/** What each instruction does in a run, by Java's own arithmetic where there is one. */
public final class InstructionsTest {
    private static final int NO = 0, I = 1, J = 2, R = 3;
    private static final Check CHECK = new Check("InstructionsTest");
    private static final long[] NUMBERS = {0, 1, -1, 2, -2, 3, 7, -7, 31, 32, 33, 63, 64, 65, 100, 127, 128, 255, 256, -128,
        -129, 32767, 32768, 65535, 65536, -32768, -32769, 70000, Integer.MAX_VALUE, Integer.MIN_VALUE, 1L << 32,
        0x123456789ABCDEFL, -0x123456789ABCDEFL, Long.MAX_VALUE, Long.MIN_VALUE};

    public static void main(String[] args) {
        constants();
        numbersOfTwo();
        numbersOfOne();
        ways();
        waysOfReferences();
        stackMoves();
        locals();
        arrays();
        fields();
        lengthsAndClasses();
        calls();
        CHECK.end();
    }

    private static void due(String what, String want, int result, int... code) {
        CHECK.same(what, Guest.alone(0, 4, result, 0, 0, code), want);
    }

    private static void constants() {
        for (int op = 2; op <= 8; op++) due("constant " + op, "0 " + (op - 3), I, 0, op, 172);
        due("J 0", "0 0", J, 9, 173);
        due("J 1", "0 1", J, 10, 173);
        due("none", "0 0", R, 1, 176);
        for (int b = 0; b < 256; b++) {
            due("16 " + b, "0 " + (byte) b, I, 16, b, 172);
            due("17 " + b + " 200", "0 " + (short) (b << 8 | 200), I, 17, b, 200, 172);
        }
    }

    /** Two arguments, one machine for each instruction. */
    private static void numbersOfTwo() {
        for (int op = 96; op <= 131; op++) {
            boolean wide = op % 2 == 1;
            int way = op - op % 2;
            boolean moves = way >= 120 && way <= 124;
            if (way == 98 || way == 102 || way == 106 || way == 110 || way == 114 || way == 116 || way == 118) continue;
            Guest guest = new Guest(16);
            int kind = wide ? J : I;
            int second = wide && !moves ? J : I;
            int number = guest.method(Guest.kinds(kind, second), 2, 2, kind, wide ? 22 : 21, 0, second == J ? 22 : 21, 1, op,
                wide ? 173 : 172);
            CHECK.due("instruction " + op, number, 0);
            // An object is used for at most 512 calls.
            for (int i = 0; i < 15; i++) {
                for (int k = 0; k < 15; k++) {
                    long a = NUMBERS[(i * 7 + op) % NUMBERS.length];
                    long b = NUMBERS[(k * 11 + i + op) % NUMBERS.length];
                    String want = wide ? wide(way, a, second == J ? b : (int) b) : narrow(way, (int) a, (int) b);
                    CHECK.same(op + " of " + a + ", " + b, guest.outcome(0, a, b, 9), want);
                }
            }
        }
    }

    private static String narrow(int way, int a, int b) {
        if ((way == 108 || way == 112) && b == 0) return "1 1";
        switch (way) {
            case 96: return "0 " + (a + b);
            case 100: return "0 " + (a - b);
            case 104: return "0 " + a * b;
            case 108: return "0 " + a / b;
            case 112: return "0 " + a % b;
            case 120: return "0 " + (a << b);
            case 122: return "0 " + (a >> b);
            case 124: return "0 " + (a >>> b);
            case 126: return "0 " + (a & b);
            case 128: return "0 " + (a | b);
            default: return "0 " + (a ^ b);
        }
    }

    private static String wide(int way, long a, long b) {
        if ((way == 108 || way == 112) && b == 0) return "1 1";
        switch (way) {
            case 96: return "0 " + (a + b);
            case 100: return "0 " + (a - b);
            case 104: return "0 " + a * b;
            case 108: return "0 " + a / b;
            case 112: return "0 " + a % b;
            case 120: return "0 " + (a << b);
            case 122: return "0 " + (a >> b);
            case 124: return "0 " + (a >>> b);
            case 126: return "0 " + (a & b);
            case 128: return "0 " + (a | b);
            default: return "0 " + (a ^ b);
        }
    }

    private static void numbersOfOne() {
        Guest guest = new Guest(16);
        int[] narrow = {116, 145, 146, 147};
        for (int op : narrow) guest.method(I, 1, 1, I, 21, 0, op, 172);
        guest.method(J, 1, 1, J, 22, 0, 117, 173);
        guest.method(I, 1, 1, J, 21, 0, 133, 173);
        guest.method(J, 1, 1, I, 22, 0, 136, 172);
        guest.method(Guest.kinds(J, J), 2, 2, I, 22, 0, 22, 1, 148, 172);
        CHECK.due("methods", guest.machine.count(1), 8);
        for (int i = 0; i < 25; i++) {
            long a = NUMBERS[NUMBERS.length - 1 - i];
            long b = NUMBERS[NUMBERS.length - 1 - i * 13 % NUMBERS.length];
            int n = (int) a;
            long[] want = {-n, (byte) n, (char) n, (short) n, -a, n, n, Long.compare(a, b)};
            for (int m = 0; m < 8; m++) CHECK.same("one number " + m + " of " + a, guest.outcome(m, a, b, 9), "0 " + want[m]);
        }
    }

    private static void ways() {
        int[] numbers = {Integer.MIN_VALUE, -1, 0, 1, Integer.MAX_VALUE};
        for (int op = 153; op <= 164; op++) {
            Guest guest = new Guest(16);
            if (op < 159) guest.method(Guest.kinds(I, I), 2, 2, I, 21, 0, op, 0, 5, 3, 172, 4, 172);
            else guest.method(Guest.kinds(I, I), 2, 2, I, 21, 0, 21, 1, op, 0, 5, 3, 172, 4, 172);
            for (int a : numbers) {
                for (int b : numbers) {
                    int order = Integer.compare(a, op < 159 ? 0 : b);
                    int test = op < 159 ? op - 153 : op - 159;
                    boolean[] goes = {order == 0, order != 0, order < 0, order >= 0, order > 0, order <= 0};
                    CHECK.same("way " + op + " of " + a + ", " + b, guest.outcome(0, a, b, 9), goes[test] ? "0 1" : "0 0");
                }
            }
        }
        due("ways back and on", "0 5", I, 167, 0, 5, 8, 172, 167, 255, 254);
        int[] far = new int[200];
        far[1] = 0;
        far[0] = 167;
        far[2] = 196;
        far[196] = 167;
        far[197] = 255;
        far[198] = 256 - 193;
        far[3] = 4;
        far[4] = 172;
        due("a long way back", "0 1", I, far);
    }

    private static void waysOfReferences() {
        int[][] rows = {{1, 0, 1, 0}, {1, 0, 187, 0}, {187, 0, 1, 0}, {187, 0, 187, 0}};
        for (int op = 165; op <= 166; op++) {
            for (int i = 0; i < rows.length; i++) {
                int[] code = {rows[i][0], rows[i][1], rows[i][2], rows[i][3], op, 0, 5, 3, 172, 4, 172};
                boolean same = i == 0;
                due("way " + op + " " + i, same == (op == 165) ? "0 1" : "0 0", I, code);
            }
            due("way " + op + " of one twice", op == 165 ? "0 1" : "0 0", I, 187, 0, 89, op, 0, 5, 3, 172, 4, 172);
        }
        due("none is none", "0 1", I, 1, 198, 0, 5, 3, 172, 4, 172);
        due("one is not none", "0 0", I, 187, 0, 198, 0, 5, 3, 172, 4, 172);
        due("none is not one", "0 0", I, 1, 199, 0, 5, 3, 172, 4, 172);
        due("one is one", "0 1", I, 187, 0, 199, 0, 5, 3, 172, 4, 172);
    }

    private static void stackMoves() {
        due("87 of I", "0 1", I, 4, 5, 87, 172);
        due("87 of R", "0 1", I, 4, 1, 87, 172);
        due("88", "0 1", I, 4, 9, 88, 172);
        due("89 of I", "0 6", I, 6, 89, 96, 172);
        due("89 of R", "0 1", R, 187, 3, 89, 87, 176);
        due("no exchange", "0 -3", I, 5, 8, 100, 172);
        due("95 exchanges", "0 3", I, 5, 8, 95, 100, 172);
        due("95 of I, R", "0 5", I, 8, 187, 3, 95, 95, 87, 172);
        due("95 of I, R once", "0 1", R, 8, 187, 3, 95, 87, 176);
        due("95 of R, R", "0 0", R, 1, 187, 3, 95, 176);
    }

    private static void locals() {
        due("I in a local", "0 4", I, 7, 54, 3, 2, 54, 2, 21, 3, 172);
        due("J in a local", "0 1", J, 10, 55, 1, 9, 55, 0, 22, 1, 173);
        due("R in a local", "0 1", R, 187, 1, 58, 0, 25, 0, 176);
        due("132 up", "0 130", I, 6, 54, 1, 132, 1, 127, 21, 1, 172);
        due("132 down", "0 -125", I, 6, 54, 1, 132, 1, 128, 21, 1, 172);
        CHECK.same("132 beyond the end", Guest.alone(I, 1, I, Integer.MAX_VALUE, 0, 132, 0, 1, 21, 0, 172),
            "0 " + Integer.MIN_VALUE);
        CHECK.same("132 beyond the other end", Guest.alone(I, 1, J, Integer.MIN_VALUE, 0, 132, 0, 255, 21, 0, 133, 173),
            "0 " + Integer.MAX_VALUE);
        int[] all = new int[16 * 3 + 16 * 2 + 16];
        int at = 0;
        for (int i = 0; i < 16; i++) {
            all[at++] = i % 7 + 2;
            all[at++] = 54;
            all[at++] = i;
        }
        all[at++] = 21;
        all[at++] = 15;
        int sum = 15 % 7 - 1;
        for (int i = 0; i < 15; i++) {
            all[at++] = 21;
            all[at++] = i;
            all[at++] = 96;
            sum += i % 7 - 1;
        }
        all[at] = 172;
        CHECK.same("sixteen locals", Guest.alone(0, 16, I, 0, 0, java.util.Arrays.copyOf(all, at + 1)), "0 " + sum);
    }

    private static void arrays() {
        int[][] uses = {{10, 79, 46}, {4, 84, 51}, {8, 84, 51}, {5, 85, 52}, {9, 86, 53}};
        for (int[] use : uses) {
            Guest guest = new Guest(40);
            // Four elements: 0 and 3 are given a and b, 1 is given a; what 1, 2 and 3 have is told by three methods.
            for (int told = 0; told < 4; told++) {
                guest.method(Guest.kinds(I, I), 3, 5, I, 7, 188, use[0], 58, 2, 25, 2, 3, 21, 0, use[1], 25, 2, 6, 21, 1, use[1],
                    25, 2, 4, 21, 0, use[1], 25, 2, 3 + told, use[2], 172);
            }
            for (int i = 0; i < NUMBERS.length; i++) {
                int a = (int) NUMBERS[i];
                int b = (int) NUMBERS[(i + 9) % NUMBERS.length];
                int[] want = {a, a, 0, b};
                for (int told = 0; told < 4; told++) {
                    CHECK.same("sort " + use[0] + " has at " + told + " of " + a + ", " + b, guest.outcome(told, a, b, 99),
                        "0 " + lowest(use[0], want[told]));
                }
            }
        }
        for (long a : NUMBERS) {
            CHECK.same("sort 11 has " + a, Guest.alone(Guest.kinds(J, J), 3, J, a, ~a,
                5, 188, 11, 58, 2, 25, 2, 3, 22, 0, 80, 25, 2, 4, 22, 1, 80, 25, 2, 3, 47, 25, 2, 4, 47, 101, 173),
                "0 " + (a - ~a));
        }
        for (int[] use : uses) manyElements(use[0], use[1], 0, use[2], 0);
        manyElements(11, 133, 80, 47, 136);
        due("an array of R", "0 1", R, 5, 189, 89, 4, 187, 3, 83, 4, 50, 176);
        due("a new array of R", "0 0", R, 5, 189, 89, 4, 187, 3, 83, 3, 50, 176);
        due("an array in itself", "0 1", I, 4, 189, 58, 0, 25, 0, 3, 25, 0, 83, 25, 0, 3, 50, 25, 0, 165, 0, 5, 3, 172, 4, 172);
    }

    /** Element i of 21 is given i times a; then each sum is 31 times the one before and an element more. */
    private static void manyElements(int sort, int store, int storeToo, int load, int loadToo) {
        for (int a : new int[] {1, 37, -41, 12345, 0x7654321}) {
            int sum = 0;
            for (int i = 0; i < 21; i++) sum = 31 * sum + lowest(sort, i * a);
            CHECK.same("21 of sort " + sort + " with " + a, Guest.alone(I, 4, I, a, 0,
                16, 21, 188, sort, 58, 1, 3, 54, 2,
                25, 1, 21, 2, 21, 2, 21, 0, 104, store, storeToo, 132, 2, 1, 21, 2, 16, 21, 161, 255, 238,
                3, 54, 2, 3, 54, 3,
                21, 3, 16, 31, 104, 25, 1, 21, 2, load, loadToo, 96, 54, 3, 132, 2, 1, 21, 2, 16, 21, 161, 255, 235,
                21, 3, 172), "0 " + sum);
        }
    }

    private static int lowest(int sort, int value) {
        switch (sort) {
            case 4: return value & 1;
            case 8: return (byte) value;
            case 5: return (char) value;
            case 9: return (short) value;
            default: return value;
        }
    }

    private static void fields() {
        Guest guest = new Guest(60);
        guest.machine.type(0, 2, 1);
        guest.machine.type(7, 2, 2);
        CHECK.same("fields are 0 and none first", guest.runs(0, 0, I, 0, 0,
            187, 8, 180, 8, 1, 187, 8, 180, 8, 2, 96, 187, 8, 180, 7, 0, 198, 0, 5, 7, 96, 172), "0 0");
        CHECK.same("an I in a field", guest.runs(I, 2, I, -70000, 0,
            187, 8, 58, 1, 25, 1, 21, 0, 181, 8, 2, 25, 1, 5, 181, 8, 1, 25, 1, 180, 8, 2, 25, 1, 180, 8, 1, 96, 172), "0 -69998");
        CHECK.same("a parent's field by its child's name", guest.runs(0, 1, I, 0, 0,
            187, 8, 58, 0, 25, 0, 8, 181, 7, 1, 25, 0, 180, 8, 1, 172), "0 5");
        CHECK.same("an R in a field", guest.runs(0, 1, R, 0, 0,
            187, 8, 58, 0, 25, 0, 25, 0, 181, 8, 3, 25, 0, 180, 8, 3, 176), "0 1");
        CHECK.same("an R taken from a field", guest.runs(0, 1, R, 0, 0,
            187, 8, 58, 0, 25, 0, 25, 0, 181, 8, 3, 25, 0, 1, 181, 8, 3, 25, 0, 180, 8, 3, 176), "0 0");
    }

    private static void lengthsAndClasses() {
        for (int sort : new int[] {4, 5, 8, 9, 10, 11}) due("length of sort " + sort, "0 5", I, 8, 188, sort, 190, 172);
        due("length of R", "0 0", I, 3, 189, 190, 172);
        due("193 of none", "0 0", I, 1, 193, 0, 172);
        due("193 of an object", "0 1", I, 187, 3, 193, 3, 172);
        due("193 above", "0 1", I, 187, 3, 193, 0, 172);
        due("193 below", "0 0", I, 187, 0, 193, 3, 172);
        due("193 beside", "0 0", I, 187, 3, 193, 4, 172);
        due("193 of an array", "0 1", I, 3, 189, 193, 0, 172);
        due("193 of an array beside", "0 0", I, 3, 188, 10, 193, 1, 172);
        due("192 of none", "0 0", R, 1, 192, 3, 176);
        due("192 of an object", "0 1", R, 187, 3, 192, 3, 176);
        due("192 above", "0 1", R, 187, 3, 192, 0, 176);
        due("192 of an array", "0 1", R, 3, 188, 4, 192, 0, 176);
        due("192 below", "1 5", R, 187, 0, 192, 3, 176);
        due("192 of an array beside", "1 5", R, 3, 188, 4, 192, 5, 176);
    }

    private static void calls() {
        Guest guest = new Guest(40);
        guest.method(Guest.kinds(I, J, R, I), 4, 3, J, 21, 0, 133, 22, 1, 101, 21, 3, 133, 101, 25, 2, 193, 3, 133, 97, 173);
        CHECK.same("the last argument is on top", guest.runs(0, 0, J, 0, 0, 16, 100, 10, 187, 3, 8, 184, 0, 173), "0 95");
        guest.method(0, 0, 0, NO, 177);
        CHECK.same("a call that leaves nothing", guest.runs(0, 0, I, 0, 0, 6, 184, 2, 184, 2, 172), "0 3");
        guest.method(R, 1, 1, R, 25, 0, 176);
        CHECK.same("a call that leaves R", guest.runs(0, 0, R, 0, 0, 187, 1, 184, 4, 176), "0 1");
        guest.method(I, 1, 3, I, 21, 0, 154, 0, 5, 3, 172, 21, 0, 21, 0, 2, 96, 184, 6, 96, 172);
        CHECK.same("a method that calls itself", guest.outcome(6, 15, 0, 500), "0 120");
        CHECK.same("what lies below the arguments stays", guest.runs(0, 0, I, 0, 0, 8, 6, 184, 6, 100, 172), "0 -1");
    }
}
