/** Promise 5: which methods are good. */
public final class JudgeTest {
    private static final int NO = 0, I = 1, J = 2, R = 3;
    private static final Check CHECK = new Check("JudgeTest");

    public static void main(String[] args) {
        knownInstructions();
        wholeInstructions();
        theEnd();
        kindsOnTheStack();
        sizeOfTheStack();
        locals();
        waysThatMeet();
        waysAlone();
        results();
        numbers();
        calls();
        handlers();
        CHECK.end();
    }

    private static void good(String what, int arguments, int locals, int stack, int result, int... code) {
        CHECK.holds(what + " is good", Guest.good(arguments, locals, stack, result, code));
    }

    private static void bad(String what, int arguments, int locals, int stack, int result, int... code) {
        CHECK.holds(what + " is not good", !Guest.good(arguments, locals, stack, result, code));
    }

    /** Every byte, with stacks of up to four values and every result: known instructions find one that suits. */
    private static void knownInstructions() {
        String known = "";
        for (int op = 0; op < 256; op++) {
            boolean found = false;
            for (int stack = 0; stack < 256 && !found; stack++) {
                for (int result = 0; result <= 3 && !found; result++) found = suits(op, stack, result);
            }
            if (found) known += op + " ";
        }
        String want = "";
        int[][] ranges = {{0, 10}, {16, 17}, {21, 22}, {25, 25}, {46, 47}, {50, 55}, {58, 58}, {79, 80}, {83, 89}, {95, 97},
            {100, 101}, {104, 105}, {108, 109}, {112, 113}, {116, 117}, {120, 133}, {136, 136}, {145, 148}, {153, 167},
            {172, 173}, {176, 177}, {180, 181}, {184, 184}, {187, 193}, {198, 199}};
        for (int[] range : ranges) {
            for (int op = range[0]; op <= range[1]; op++) want += op + " ";
        }
        CHECK.same("the instructions", known, want);
    }

    private static boolean suits(int op, int stack, int result) {
        for (int operand : new int[] {0, 1, 2, 4, 7, 8}) {
            Guest guest = new Guest(16);
            guest.machine.type(0, 2, 2);
            guest.method(0, 0, 0, 0, 177);
            int[] code = new int[16];
            int at = 0;
            for (int rest = stack; (rest & 3) != 0; rest >>= 2) code[at++] = new int[] {0, 3, 9, 1}[rest & 3];
            code[at++] = op;
            code[at++] = operand;
            // Behind it stands an endless way: 0 3 is a jump there, and 7 0 a field.
            code[at++] = operand == 0 ? 3 : 0;
            code[at++] = 167;
            code[at++] = 0;
            code[at++] = 0;
            guest.feed(java.util.Arrays.copyOf(code, at));
            if (guest.machine.method(Guest.kinds(I, J, R), 9, 5, result) == 1) return true;
        }
        return false;
    }

    private static void wholeInstructions() {
        int[][] cut = {{16}, {17}, {17, 0}, {21}, {132}, {132, 0}, {167}, {167, 0}, {184}, {187}, {3, 188}, {1, 180}, {1, 192}};
        for (int[] code : cut) bad("cut " + code[code.length - 1], I, 1, 3, NO, code);
        bad("an unknown one", 0, 0, 3, NO, 18, 177);
        bad("an unknown one behind a way", 0, 0, 3, NO, 3, 153, 0, 4, 177, 11);
        good("an unknown one that no way leads to", 0, 0, 3, NO, 3, 153, 0, 5, 177, 11, 177);
        good("what no way leads to", 0, 0, 1, NO, 177, 202, 96, 16);
        good("a way into an instruction", 0, 0, 1, I, 167, 0, 4, 16, 8, 172);
    }

    private static void theEnd() {
        bad("code that goes beyond", 0, 0, 3, NO, 0);
        bad("code that goes beyond with an I", 0, 0, 3, I, 3);
        bad("a way beyond", 0, 0, 3, NO, 167, 0, 3);
        bad("a way far beyond", 0, 0, 3, NO, 167, 127, 255);
        bad("a way before", 0, 0, 3, NO, 167, 255, 255);
        bad("a way far before", 0, 0, 3, NO, 167, 128, 0);
        bad("a way that may not go", 0, 0, 3, NO, 3, 153, 0, 3);
        bad("a way that may go beyond", 0, 0, 3, NO, 3, 153, 0, 4, 177);
        bad("a call at the end", 0, 0, 3, NO, 184, 0);
        good("an endless way", 0, 0, 0, NO, 167, 0, 0);
        good("an endless way with result J", 0, 0, 0, J, 167, 0, 0);
        good("a throw at the end", 0, 0, 1, J, 1, 191);
    }

    private static void kindsOnTheStack() {
        bad("a sum of nothing", 0, 0, 3, I, 96, 172);
        bad("a sum of one", 0, 0, 3, I, 3, 96, 172);
        bad("a sum of I and J", 0, 0, 3, I, 3, 9, 96, 172);
        bad("a sum of R and I", 0, 0, 3, I, 1, 3, 96, 172);
        bad("a J sum of I", 0, 0, 3, J, 3, 3, 97, 173);
        bad("87 of J", 0, 0, 3, NO, 9, 87, 177);
        bad("88 of I", 0, 0, 3, NO, 3, 88, 177);
        bad("88 of two I", 0, 0, 3, NO, 3, 3, 88, 177);
        bad("89 of J", 0, 0, 3, NO, 9, 89, 177);
        bad("89 of nothing", 0, 0, 3, NO, 89, 177);
        bad("95 of J and I", 0, 0, 3, NO, 9, 3, 95, 177);
        bad("95 of I and J", 0, 0, 3, NO, 3, 9, 95, 177);
        bad("95 of one", 0, 0, 3, NO, 3, 95, 177);
        good("95 of I and R", 0, 0, 3, NO, 3, 1, 95, 177);
        bad("J moved by J", 0, 0, 3, J, 9, 9, 121, 173);
        good("J moved by I", 0, 0, 3, J, 9, 3, 121, 173);
        bad("an array store of R", 0, 0, 3, NO, 1, 3, 1, 79, 177);
        bad("an R store of I", 0, 0, 3, NO, 1, 3, 3, 83, 177);
        bad("an element of I", 0, 0, 3, I, 3, 3, 46, 172);
        bad("an R compared with I", 0, 0, 3, NO, 1, 3, 165, 0, 3, 177);
        bad("an I compared with R", 0, 0, 3, NO, 1, 3, 159, 0, 3, 177);
        bad("an I whether none", 0, 0, 3, NO, 3, 198, 0, 3, 177);
        bad("an I thrown", 0, 0, 3, NO, 3, 191);
    }

    private static void sizeOfTheStack() {
        bad("one on none", 0, 0, 0, I, 3, 172);
        good("one on one", 0, 0, 1, I, 3, 172);
        good("a J on one", 0, 0, 1, J, 9, 173);
        good("two J on two", 0, 0, 2, J, 9, 9, 97, 173);
        bad("two J on one", 0, 0, 1, J, 9, 9, 97, 173);
        bad("89 beyond", 0, 0, 1, I, 3, 89, 172);
        good("89", 0, 0, 2, I, 3, 89, 172);
        good("twelve", 0, 0, 12, NO, 1, 1, 1, 1, 1, 1, 1, 1, 1, 1, 1, 1, 177);
        bad("thirteen", 0, 0, 12, NO, 1, 1, 1, 1, 1, 1, 1, 1, 1, 1, 1, 1, 1, 177);
        bad("twelve on eleven", 0, 0, 11, NO, 1, 1, 1, 1, 1, 1, 1, 1, 1, 1, 1, 1, 177);
    }

    private static void locals() {
        bad("an argument as another kind", I, 1, 1, J, 22, 0, 173);
        bad("a local without kind", 0, 1, 1, I, 21, 0, 172);
        bad("an R without kind", 0, 1, 1, R, 25, 0, 176);
        bad("a local that is not there", 0, 1, 1, NO, 3, 54, 1, 177);
        bad("a local far beyond", 0, 16, 1, NO, 3, 54, 255, 177);
        bad("a local read beyond", I, 1, 1, I, 21, 16, 172);
        bad("a local read beyond the most", I, 16, 1, I, 21, 16, 172);
        bad("a local set beyond the most", I, 16, 1, NO, 3, 54, 16, 177);
        good("the last local", 0, 16, 1, I, 3, 54, 15, 21, 15, 172);
        good("a kind changed", I, 1, 1, R, 1, 58, 0, 25, 0, 176);
        bad("the kind before it", I, 1, 1, I, 1, 58, 0, 21, 0, 172);
        good("132 of I", I, 1, 0, NO, 132, 0, 1, 177);
        bad("132 of J", J, 1, 0, NO, 132, 0, 1, 177);
        bad("132 of no kind", I, 2, 0, NO, 132, 1, 1, 177);
        bad("132 beyond", I, 1, 0, NO, 132, 1, 1, 177);
    }

    private static void waysThatMeet() {
        bad("stacks of differing depth", 0, 0, 3, NO, 3, 153, 0, 4, 3, 177);
        bad("stacks of differing kinds", I, 1, 3, NO, 21, 0, 153, 0, 7, 3, 167, 0, 4, 1, 177);
        good("stacks of the same kinds", I, 1, 3, I, 21, 0, 153, 0, 7, 3, 167, 0, 4, 4, 172);
        bad("a stack that grows in a circle", 0, 0, 12, NO, 3, 167, 255, 255);
        good("a circle", 0, 0, 12, NO, 3, 87, 167, 255, 254);
        int[] differing = {21, 0, 153, 0, 9, 3, 54, 1, 167, 0, 6, 1, 58, 1, 0};
        good("locals that differ", I, 2, 2, NO, with(differing, 177));
        bad("locals that differ, read", I, 2, 2, NO, with(differing, 21, 1, 177));
        bad("locals that differ, read as R", I, 2, 2, NO, with(differing, 25, 1, 177));
        good("locals that differ, set anew", I, 2, 2, NO, with(differing, 1, 58, 1, 25, 1, 177));
        bad("a local set by one way alone", I, 2, 2, NO, 21, 0, 153, 0, 6, 3, 54, 1, 21, 1, 177);
        bad("a local lost in a circle", I, 1, 1, NO, 132, 0, 1, 1, 58, 0, 167, 255, 250);
        bad("a local lost late", Guest.kinds(I, I, I), 3, 1, NO,
            21, 2, 153, 0, 3, 21, 1, 54, 2, 21, 0, 54, 1, 1, 58, 0, 167, 255, 240);
    }

    private static int[] with(int[] first, int... then) {
        int[] whole = java.util.Arrays.copyOf(first, first.length + then.length);
        System.arraycopy(then, 0, whole, first.length, then.length);
        return whole;
    }

    private static void waysAlone() {
        good("what stands behind a way on", 0, 0, 0, NO, 167, 0, 4, 96, 177);
        good("what stands behind a throw", 0, 0, 1, NO, 1, 191, 96);
        bad("a way not taken in any run", 0, 0, 1, NO, 3, 154, 0, 4, 177, 96);
        good("values left at the end", 0, 0, 4, I, 9, 1, 3, 4, 172);
    }

    private static void results() {
        int[] ends = {177, 172, 173, 176};
        int[] gives = {0, 3, 9, 1};
        for (int end = 0; end < 4; end++) {
            for (int result = 0; result < 4; result++) {
                CHECK.holds("an end with " + end + " of a method with " + result,
                    Guest.good(0, 0, 1, result, gives[end], ends[end]) == (end == result));
            }
            for (int on = 0; on < 4; on++) {
                boolean fits = end == 0 || on == end;
                CHECK.holds("an end with " + end + " and on the stack " + on,
                    Guest.good(0, 0, 1, end, gives[on], ends[end]) == fits);
            }
        }
    }

    private static void numbers() {
        for (int sort = 0; sort < 256; sort++) {
            boolean is = sort == 4 || sort == 5 || sort >= 8 && sort <= 11;
            CHECK.holds("sort " + sort, Guest.good(0, 0, 1, NO, 3, 188, sort, 177) == is);
        }
        for (int op : new int[] {192, 193}) {
            good(op + " of the last class", 0, 0, 1, NO, 1, op, 6, 177);
            bad(op + " of no class", 0, 0, 1, NO, 1, op, 7, 177);
            bad(op + " of class 255", 0, 0, 1, NO, 1, op, 255, 177);
        }
        good("187 of the last class", 0, 0, 1, NO, 187, 6, 177);
        bad("187 of no class", 0, 0, 1, NO, 187, 7, 177);
        bad("187 of class 255", 0, 0, 1, NO, 187, 255, 177);
        bad("a field of class 0", 0, 0, 1, I, 1, 180, 0, 0, 172);
        bad("a field of no class", 0, 0, 1, I, 1, 180, 200, 0, 172);
        bad("a field stored of class 1", 0, 0, 2, NO, 1, 3, 181, 1, 0, 177);
        Guest guest = new Guest(16);
        guest.machine.type(0, 2, 2);
        CHECK.due("an I into an I field", guest.method(0, 0, 2, NO, 1, 3, 181, 7, 0, 177), 0);
        CHECK.due("an R into an I field", guest.method(0, 0, 2, NO, 1, 1, 181, 7, 0, 177), -1);
        CHECK.due("an R into an R field", guest.method(0, 0, 2, NO, 1, 1, 181, 7, 1, 177), 1);
        CHECK.due("an I into an R field", guest.method(0, 0, 2, NO, 1, 3, 181, 7, 1, 177), -1);
        CHECK.due("a J into an I field", guest.method(0, 0, 2, NO, 1, 9, 181, 7, 0, 177), -1);
        CHECK.due("a field of an I", guest.method(0, 0, 2, NO, 3, 3, 181, 7, 0, 177), -1);
        CHECK.due("a third field", guest.method(0, 0, 2, NO, 1, 3, 181, 7, 2, 177), -1);
        CHECK.due("field 255", guest.method(0, 0, 2, NO, 1, 3, 181, 7, 255, 177), -1);
    }

    private static void calls() {
        good("itself", 0, 0, 0, NO, 184, 0, 177);
        bad("one beyond itself", 0, 0, 0, NO, 184, 1, 177);
        bad("one far beyond", 0, 0, 0, NO, 184, 255, 177);
        good("itself by its own kinds", Guest.kinds(I, R), 2, 2, J, 21, 0, 25, 1, 184, 0, 173);
        bad("itself by other kinds", Guest.kinds(I, R), 2, 2, J, 25, 1, 21, 0, 184, 0, 173);
        bad("itself by too few", Guest.kinds(I, R), 2, 2, J, 25, 1, 184, 0, 173);
        bad("itself for another result", Guest.kinds(I), 1, 2, J, 3, 184, 0, 136, 172);
        bad("no room for its result", 0, 0, 0, J, 184, 0, 167, 0, 0);
        Guest guest = new Guest(16);
        guest.method(Guest.kinds(I, J, R), 3, 0, NO, 177);
        CHECK.due("another", guest.method(0, 0, 3, NO, 3, 9, 1, 184, 0, 177), 1);
        CHECK.due("another by other kinds", guest.method(0, 0, 3, NO, 1, 9, 3, 184, 0, 177), -1);
        CHECK.due("another by one kind wrong", guest.method(0, 0, 3, NO, 3, 3, 1, 184, 0, 177), -1);
        CHECK.due("one that leaves nothing", guest.method(0, 0, 3, I, 3, 9, 1, 184, 0, 172), -1);
        CHECK.due("one that there is not yet", guest.method(0, 0, 3, NO, 184, 3, 177), -1);
        CHECK.due("this one", guest.method(0, 0, 3, NO, 184, 2, 177), 2);
    }

    private static void handlers() {
        handled("a handler", true, 1, 1, NO, new int[] {0, 1, 1, 0}, 177, 191);
        handled("no room for R", false, 0, 1, NO, new int[] {0, 1, 1, 0}, 177, 87, 177);
        handled("no room for R, but no such instruction", true, 0, 1, NO, new int[] {1, 2, 1, 0}, 177, 87, 177);
        handled("a handler for what cannot throw", false, 1, 1, NO, new int[] {0, 1, 1, 0}, 177, 172);
        handled("a handler at the end", false, 1, 1, NO, new int[] {0, 1, 2, 0}, 177, 191);
        handled("a handler beyond the end", false, 1, 1, NO, new int[] {0, 1, 200, 0}, 177, 191);
        handled("a handler beyond the end of what is not reached", true, 1, 1, NO, new int[] {1, 2, 200, 0}, 177, 191);
        handled("an instruction at the range's last place", false, 1, 1, I, new int[] {1, 3, 200, 0}, 16, 5, 172);
        handled("a range beyond the end", true, 1, 1, NO, new int[] {0, 200, 1, 0}, 177, 191);
        handled("a handler in the midst", true, 2, 1, I, new int[] {0, 1, 3, 0}, 16, 5, 172, 87, 3, 172);
        handled("instructions before the range and at its end", true, 1, 1, I, new int[] {1, 2, 200, 0}, 16, 5, 172);
        handled("locals before the instruction", false, 1, 2, R, new int[] {1, 3, 5, 0}, 1, 58, 1, 1, 191, 87, 25, 1, 176);
        handled("locals behind the instruction", true, 1, 2, R, new int[] {3, 5, 5, 0}, 1, 58, 1, 1, 191, 87, 25, 1, 176);
        handled("a kind lost in the range", false, 1, 2, I, new int[] {3, 9, 7, 0},
            3, 54, 1, 1, 58, 1, 1, 87, 21, 1, 172);
        handled("a stack that differs from R", false, 1, 1, I, new int[] {0, 1, 1, 0}, 3, 172);
        handled("an own range", true, 1, 1, NO, new int[] {0, 3, 1, 0}, 1, 87, 177);
    }

    private static void handled(String what, boolean good, int stack, int locals, int result, int[] handler, int... code) {
        Guest guest = new Guest(40);
        guest.handler(handler[0], handler[1], handler[2], handler[3]);
        CHECK.due(what, guest.method(0, locals, stack, result, code), good ? 0 : -1);
    }
}
