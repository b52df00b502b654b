import java.util.ArrayList;
import java.util.Arrays;
import java.util.List;

/**
 * The edges of what is a good method ('Terms', '2 INSTRUCTIONS', '3 JUDGED, RUN' and promise 5): each sentence that names
 * one stands, in its own words, above the test that would fail without it.
 */
public final class CodeEdgesTest {
    private static final int NO = 0, I = 1, J = 2, R = 3;
    private static final int RETURN = 177;
    private static final int[] AWAY = {167, 0, 0};
    private static final Check CHECK = new Check("CodeEdgesTest");

    /**
     * All instructions that go on behind themselves: bytes, then what they take and leave. Locals 0, 1, 2 are I, J, R
     * and 3 has no kind; class 7 has fields I, R; method 0 has arguments I, J, R and result J.
     */
    private static final String[] ROWS = {
        "0:>", "1:>R", "2:>I", "3:>I", "4:>I", "5:>I", "6:>I", "7:>I", "8:>I", "9:>J", "10:>J", "16 200:>I", "17 200 201:>I",
        "21 0:>I", "22 1:>J", "25 2:>R", "54 3:I>", "55 3:J>", "58 3:R>", "46:RI>I", "47:RI>J", "50:RI>R", "51:RI>I",
        "52:RI>I", "53:RI>I", "79:RII>", "80:RIJ>", "83:RIR>", "84:RII>", "85:RII>", "86:RII>", "87:I>,R>", "88:J>",
        "89:I>II,R>RR", "95:II>II,IR>RI,RI>IR,RR>RR", "96:II>I", "100:II>I", "104:II>I", "108:II>I", "112:II>I", "116:I>I",
        "97:JJ>J", "101:JJ>J", "105:JJ>J", "109:JJ>J", "113:JJ>J", "117:J>J", "120:II>I", "122:II>I", "124:II>I", "121:JI>J",
        "123:JI>J", "125:JI>J", "126:II>I", "128:II>I", "130:II>I", "127:JJ>J", "129:JJ>J", "131:JJ>J", "132 0 255:>",
        "133:I>J", "136:J>I", "145:I>I", "146:I>I", "147:I>I", "148:JJ>I", "153 0 3:I>", "154 0 3:I>", "155 0 3:I>",
        "156 0 3:I>", "157 0 3:I>", "158 0 3:I>", "159 0 3:II>", "160 0 3:II>", "161 0 3:II>", "162 0 3:II>", "163 0 3:II>",
        "164 0 3:II>", "165 0 3:RR>", "166 0 3:RR>", "167 0 3:>", "198 0 3:R>", "199 0 3:R>", "180 7 0:R>I", "180 7 1:R>R",
        "181 7 0:RI>", "181 7 1:RR>", "184 0:IJR>J", "187 7:>R", "188 4:I>R", "188 11:I>R", "189:I>R", "190:R>I", "192 7:R>R",
        "193 7:R>I"};

    public static void main(String[] args) {
        othersAreNone();
        kindsOnTheStack();
        kindsThatComeThere();
        sizeOfTheStack();
        twelveValues();
        wholeInstructions();
        beyondTheEnd();
        placesToGoTo();
        bothWaysOfEachJump();
        nothingIsLeftFromTheMethodBefore();
        localsThatThereAre();
        sixteenLocals();
        kindsOfLocals();
        nothingFromTheBeginning();
        numbersOfClasses();
        numbersOfFields();
        numbersOfMethods();
        sortsOfArrays();
        ends();
        throwing();
        stacksThatMeet();
        localsThatMeet();
        localsThatMeetLate();
        whatNoWayLeadsTo();
        rangesOfHandlers();
        placesOfHandlers();
        localsBeforeTheInstruction();
        aReferenceAlone();
        roomForTheReference();
        CHECK.end();
    }

    // ---- code from rows

    private static int[] bytesOf(String row) {
        return Arrays.stream(row.substring(0, row.indexOf(':')).split(" ")).mapToInt(Integer::parseInt).toArray();
    }

    private static String[] effectsOf(String row) {
        return row.substring(row.indexOf(':') + 1).split(",");
    }

    private static String takes(String effect) {
        return effect.substring(0, effect.indexOf('>'));
    }

    private static String leaves(String effect) {
        return effect.substring(effect.indexOf('>') + 1);
    }

    /** Code that puts these kinds onto the stack. */
    private static int[] pushes(String kinds) {
        return kinds.chars().map(kind -> kind == 'I' ? 3 : kind == 'J' ? 9 : 1).toArray();
    }

    /** Code that stores all of these, the last one first, where each kind is looked at. */
    private static int[] stores(String kinds) {
        int[] code = new int[2 * kinds.length()];
        for (int i = 0; i < kinds.length(); i++) {
            char kind = kinds.charAt(kinds.length() - 1 - i);
            code[2 * i] = kind == 'I' ? 54 : kind == 'J' ? 55 : 58;
            code[2 * i + 1] = 3;
        }
        return code;
    }

    /** All rows of kinds up to that length. */
    private static List<String> stacks(int most) {
        List<String> all = new ArrayList<>(List.of(""));
        for (int i = 0; i < all.size() && all.get(i).length() < most; i++) {
            for (String kind : new String[] {"I", "J", "R"}) all.add(all.get(i) + kind);
        }
        return all;
    }

    /** A machine as the rows take it for granted. */
    private static Guest forRows() {
        Guest guest = new Guest(16);
        guest.machine.type(0, 2, 2);
        guest.method(Guest.kinds(I, J, R), 3, 1, J, 9, 173);
        return guest;
    }

    private static void row(String what, boolean good, int stack, int[]... parts) {
        CHECK.due(what, forRows().method(Guest.kinds(I, J, R), 4, stack, NO, Guest.join(parts)), good ? 1 : -1);
    }

    private static void judged(String what, boolean good, int arguments, int locals, int stack, int result, int... code) {
        CHECK.due(what, new Guest(16).method(arguments, locals, stack, result, code), good ? 0 : -1);
    }

    // ---- instructions

    /** "Others are none." */
    private static void othersAreNone() {
        boolean[] known = new boolean[256];
        for (String row : ROWS) known[bytesOf(row)[0]] = true;
        for (int op : new int[] {172, 173, 176, 177, 191}) known[op] = true;
        int count = 0;
        for (int op = 0; op < 256; op++) {
            if (known[op]) count++;
            else for (String stack : stacks(3)) row(op + " on " + stack, false, 12, pushes(stack), new int[] {op, 0, 3}, AWAY);
        }
        CHECK.due("instructions", count, 97);
    }

    /** "kinds on the stack are as needed" */
    private static void kindsOnTheStack() {
        for (String row : ROWS) {
            for (String stack : stacks(4)) {
                boolean good = false;
                for (String effect : effectsOf(row)) good |= stack.endsWith(takes(effect));
                row(row + " on " + stack, good, 12, pushes(stack), bytesOf(row), AWAY);
            }
        }
    }

    /** "from what is on the stack, to what comes there" */
    private static void kindsThatComeThere() {
        for (String row : ROWS) {
            for (String effect : effectsOf(row)) {
                for (String below : stacks(1)) {
                    String after = below + leaves(effect);
                    int[] code = Guest.join(pushes(below + takes(effect)), bytesOf(row));
                    row(row + " leaves " + after, true, 12, code, stores(after), AWAY);
                    row(row + " leaves no more I, R than " + after, false, 12, code, stores(after), new int[] {87}, AWAY);
                    row(row + " leaves no more J than " + after, false, 12, code, stores(after), new int[] {88}, AWAY);
                }
            }
        }
    }

    /** "the stack is never beyond its size" */
    private static void sizeOfTheStack() {
        for (String row : ROWS) {
            for (String effect : effectsOf(row)) {
                for (String below : new String[] {"", "I", "RJ"}) {
                    int needed = below.length() + Math.max(takes(effect).length(), leaves(effect).length());
                    int[] code = Guest.join(pushes(below + takes(effect)), bytesOf(row), AWAY);
                    row(row + " on " + needed, true, needed, code);
                    if (needed > 0) row(row + " on one less than " + needed, false, needed - 1, code);
                }
            }
        }
    }

    /** "a STACK (at most 12 values)" */
    private static void twelveValues() {
        for (char kind : new char[] {'I', 'J', 'R'}) {
            for (int size = 0; size <= 12; size++) {
                int[] fill = pushes(("" + kind).repeat(size));
                row(size + " of " + kind, true, size, fill, AWAY);
                row("one more than " + size + " of " + kind, false, size, fill, pushes("" + kind), AWAY);
            }
            row("13 that come in a circle", false, 12, pushes("" + kind), new int[] {167, 255, 255});
        }
        row("twelve of all kinds", true, 12, pushes("IJRRJIIIJJRR"), stores("IJRRJIIIJJRR"), AWAY);
        row("twelve, and one exchanged", false, 12, pushes("IJRRJIIIJJRR"), stores("IJRRJIIIJRJR"), AWAY);
    }

    /** "there is always a whole known instruction" */
    private static void wholeInstructions() {
        for (String row : ROWS) {
            int[] bytes = bytesOf(row);
            int[] before = pushes(takes(effectsOf(row)[0]));
            for (int length = 1; length < bytes.length; length++) {
                row(row + " cut to " + length, false, 12, before, Arrays.copyOf(bytes, length));
            }
        }
    }

    /** "and the code never goes beyond its end" */
    private static void beyondTheEnd() {
        for (String row : ROWS) {
            int[] before = pushes(takes(effectsOf(row)[0]));
            row(row + " at the end", false, 12, before, bytesOf(row));
            row(row + " before an end", true, 12, before, bytesOf(row), new int[] {RETURN});
        }
        int[] most = new int[200];
        judged("200 bytes that go beyond", false, 0, 0, 0, NO, most);
        most[199] = RETURN;
        judged("200 bytes that end", true, 0, 0, 0, NO, most);
        most[198] = 16;
        judged("200 bytes that end within an instruction", false, 0, 0, 1, NO, most);
    }

    /** "(TO: two bytes with a sign, from the instruction's place.)" */
    private static void placesToGoTo() {
        for (int from : new int[] {0, 1, 100, 196, 197}) {
            for (int target = -600; target <= 800; target++) goesTo(from, target);
            for (int by : new int[] {-32768, -32767, 32766, 32767}) goesTo(from, from + by);
            for (int target = 0; target < 200; target++) {
                goesTo(from, target + 256);
                goesTo(from, target - 256);
            }
        }
    }

    /** Ends stand everywhere but at the one way, and that is gone to over nothing. */
    private static void goesTo(int from, int target) {
        if (target > from && target < from + 3) return;
        int[] code = new int[200];
        Arrays.fill(code, RETURN);
        Arrays.fill(code, 0, from, 0);
        code[from] = 167;
        code[from + 1] = target - from >> 8 & 255;
        code[from + 2] = target - from & 255;
        judged("a way from " + from + " to " + target, target >= 0 && target < 200, 0, 0, 0, NO, code);
    }

    /** "to each place that an instruction leads to" */
    private static void bothWaysOfEachJump() {
        for (String row : ROWS) {
            int[] jump = bytesOf(row);
            if (jump[0] < 153 || jump[0] >= 180 && jump[0] < 198) continue;
            int[] first = Guest.join(pushes(takes(effectsOf(row)[0])), new int[] {jump[0], 0, 4});
            boolean always = jump[0] == 167;
            row(jump[0] + " with both ways good", true, 12, first, new int[] {RETURN, RETURN});
            row(jump[0] + " to what is none", false, 12, first, new int[] {RETURN, 255});
            row(jump[0] + " before what is none", always, 12, first, new int[] {255, RETURN});
            row(jump[0] + " to what needs the stack as it was", false, 12, first, new int[] {RETURN, 87, RETURN});
            row(jump[0] + " to what needs locals as they were", true, 12, first, new int[] {RETURN, 132, 0, 1, RETURN});
            row(jump[0] + " to a local of no kind", false, 12, first, new int[] {RETURN, 132, 3, 1, RETURN});
        }
    }

    /** "NONE if it is not good": also when the one before was left with ways not yet gone over */
    private static void nothingIsLeftFromTheMethodBefore() {
        for (int place = 6; place < 199; place++) {
            int[] code = new int[place + 1];
            Arrays.fill(code, RETURN);
            System.arraycopy(new int[] {21, 0, 153, 0, place - 2}, 0, code, 0, 5);
            code[5] = 255;
            int[] other = code.clone();
            other[5] = RETURN;
            int[] worse = other.clone();
            worse[place] = 255;
            Guest guest = new Guest(16);
            CHECK.due("one that is not good, with a way to " + place, guest.method(I, 1, 1, NO, code), -1);
            CHECK.due("a short one behind it", guest.method(0, 0, 0, NO, RETURN), 0);
            CHECK.due("one that is not good once more", guest.method(I, 1, 1, NO, code), -1);
            CHECK.due("one that is not good at " + place, guest.method(I, 1, 1, NO, worse), -1);
            CHECK.due("one that is good", guest.method(I, 1, 1, NO, other), 1);
            CHECK.due("one with other kinds at " + place,
                guest.method(Guest.kinds(I, R), 2, 2, NO, Guest.join(other, new int[] {255})), 2);
        }
    }

    // ---- numbers behind instructions, and locals

    /** "21, 22, 25 n: local n", "54, 55, 58 n: stored there", "132 n b: local n", with "LOCALS (at most 16)" */
    private static void localsThatThereAre() {
        for (int locals = 1; locals <= 16; locals++) {
            for (int n : new int[] {0, locals - 1, locals, locals + 1, 15, 16, 17, 31, 32, 127, 128, 255}) {
                boolean good = n < locals;
                judged("54 " + n + " of " + locals, good, 0, locals, 1, NO, 3, 54, n, RETURN);
                judged("55 " + n + " of " + locals, good, 0, locals, 1, NO, 9, 55, n, RETURN);
                judged("58 " + n + " of " + locals, good, 0, locals, 1, NO, 1, 58, n, RETURN);
                // All locals have the kind that is read.
                judged("21 " + n + " of " + locals, good, 0, locals, 1, NO,
                    Guest.join(fill(locals, 3, 54), new int[] {21, n, RETURN}));
                judged("22 " + n + " of " + locals, good, 0, locals, 1, NO,
                    Guest.join(fill(locals, 9, 55), new int[] {22, n, RETURN}));
                judged("25 " + n + " of " + locals, good, 0, locals, 1, NO,
                    Guest.join(fill(locals, 1, 58), new int[] {25, n, RETURN}));
                judged("132 " + n + " of " + locals, good, 0, locals, 1, NO,
                    Guest.join(fill(locals, 3, 54), new int[] {132, n, 1, RETURN}));
            }
        }
        for (int op : new int[] {54, 21, 132}) judged(op + " of no locals", false, 0, 0, 1, NO, 3, op, 0, RETURN, RETURN);
    }

    private static int[] fill(int locals, int push, int store) {
        int[] code = new int[3 * locals];
        for (int i = 0; i < locals; i++) {
            code[3 * i] = push;
            code[3 * i + 1] = store;
            code[3 * i + 2] = i;
        }
        return code;
    }

    /** "LOCALS (at most 16; a J is one, too)" */
    private static void sixteenLocals() {
        judged("16 of J, the last one read", true, 0, 16, 1, J, Guest.join(fill(16, 9, 55), new int[] {22, 15, 173}));
        judged("16 of J, the first one read", true, 0, 16, 1, J, Guest.join(fill(16, 9, 55), new int[] {22, 0, 173}));
        judged("four J in four locals", true, Guest.kinds(J, J, J, J), 4, 1, J, 22, 3, 173);
        judged("a J beside others", true, Guest.kinds(I, J, R), 3, 3, NO, 21, 0, 22, 1, 25, 2, RETURN);
        judged("a J that is stored beside others", true, Guest.kinds(I, J, R), 3, 3, NO, 9, 55, 1, 21, 0, 22, 1, 25, 2, RETURN);
    }

    /** "locals that are read have that kind" */
    private static void kindsOfLocals() {
        int[] loads = {0, 21, 22, 25};
        for (int local = 0; local < 16; local++) {
            for (int has = NO; has <= R; has++) {
                int[] before = has == NO ? new int[] {0} : new int[] {new int[] {0, 3, 9, 1}[has],
                    new int[] {0, 54, 55, 58}[has], local};
                for (int read = I; read <= R; read++) {
                    judged("local " + local + " of kind " + has + " read as " + read, has == read, 0, 16, 1, NO,
                        Guest.join(before, new int[] {loads[read], local, RETURN}));
                }
                judged("local " + local + " of kind " + has + " made more", has == I, 0, 16, 1, NO,
                    Guest.join(before, new int[] {132, local, 1, RETURN}));
                int other = (local + 1) % 16;
                judged("local " + other + " beside " + local, false, 0, 16, 1, NO,
                    Guest.join(before, new int[] {21, other, RETURN}));
            }
        }
        judged("the later kind", true, 0, 1, 1, J, 3, 54, 0, 1, 58, 0, 9, 55, 0, 22, 0, 173);
        judged("an earlier kind", false, 0, 1, 1, R, 3, 54, 0, 1, 58, 0, 9, 55, 0, 25, 0, 176);
    }

    /** "from place 0 with arguments in locals, nothing on the stack" */
    private static void nothingFromTheBeginning() {
        judged("a value away from nothing", false, I, 1, 12, NO, 87, RETURN);
        judged("a J away from nothing", false, J, 1, 12, NO, 88, RETURN);
        judged("an end with an argument that is in its local", false, I, 1, 12, I, 172);
        judged("an end with an argument", true, I, 1, 12, I, 21, 0, 172);
        for (int load : new int[] {21, 22, 25}) {
            judged(load + " behind the arguments", false, Guest.kinds(I, J), 3, 12, NO, load, 2, RETURN);
        }
    }

    /** "180 c k", "187 c", "192 c", "193 c": CLASSES 0 .. 29, those that there are */
    private static void numbersOfClasses() {
        for (int more = 0; more <= 23; more++) {
            int last = 6 + more;
            for (int c : new int[] {0, last, last + 1, 29, 30, 127, 128, 255}) {
                int due = c <= last ? 0 : -1;
                CHECK.due("187 of " + c + " in " + last, withClasses(more).method(0, 0, 1, NO, 187, c, RETURN), due);
                CHECK.due("192 of " + c + " in " + last, withClasses(more).method(0, 0, 1, NO, 1, 192, c, RETURN), due);
                CHECK.due("193 of " + c + " in " + last, withClasses(more).method(0, 0, 1, NO, 1, 193, c, RETURN), due);
                int field = c >= 7 && c <= last ? 0 : -1;
                CHECK.due("180 of " + c + " in " + last, withClasses(more).method(0, 0, 1, NO, 1, 180, c, 0, RETURN), field);
                CHECK.due("181 of " + c + " in " + last, withClasses(more).method(0, 0, 2, NO, 1, 3, 181, c, 0, RETURN), field);
            }
        }
    }

    private static Guest withClasses(int more) {
        Guest guest = new Guest(16);
        for (int i = 0; i < more; i++) guest.machine.type(0, 1, 0);
        return guest;
    }

    /** "field k of class c (c has it)", and "at most 8": "the parent's first, then own ones" */
    private static void numbersOfFields() {
        for (int fields = 0; fields <= 8; fields++) {
            for (int k : new int[] {0, 1, fields - 1, fields, fields + 1, 7, 8, 31, 32, 127, 128, 255}) {
                if (k < 0) continue;
                int due = k < fields ? 0 : -1;
                for (int parents = 0; parents <= fields; parents++) {
                    CHECK.due("180 of field " + k + " of " + fields,
                        withFields(parents, fields).method(0, 0, 1, NO, 1, 180, 8, k, RETURN), due);
                }
                CHECK.due("181 of field " + k + " of " + fields,
                    withFields(0, fields).method(0, 0, 2, NO, 1, 3, 181, 8, k, RETURN), due);
                int above = k < fields / 2 ? 0 : -1;
                CHECK.due("180 of its parent's field " + k,
                    withFields(fields / 2, fields).method(0, 0, 1, NO, 1, 180, 7, k, RETURN), above);
            }
        }
    }

    /** Class 7 with some fields, and 8 below it with all. */
    private static Guest withFields(int first, int all) {
        Guest guest = new Guest(16);
        guest.machine.type(0, first, 0);
        guest.machine.type(7, all - first, 0);
        return guest;
    }

    /** "m: one of the methods that there are, or this one" */
    private static void numbersOfMethods() {
        for (int there = 0; there < 20; there++) {
            for (int m : new int[] {0, there - 1, there, there + 1, 19, 20, 127, 128, 255}) {
                if (m < 0) continue;
                CHECK.due("184 of " + m + " in " + there, withMethods(there).method(0, 0, 0, NO, 184, m, RETURN),
                    m <= there ? there : -1);
            }
        }
        Guest guest = withMethods(19);
        CHECK.due("itself as the last", guest.method(Guest.kinds(J, I), 2, 2, R, 22, 0, 21, 1, 184, 19, 176), 19);
    }

    private static Guest withMethods(int there) {
        Guest guest = new Guest(16);
        for (int i = 0; i < there; i++) guest.method(0, 0, 0, NO, RETURN);
        return guest;
    }

    /** "a new array of sort s (4 to 11 but 6, 7)" */
    private static void sortsOfArrays() {
        for (int s = 0; s < 256; s++) judged("sort " + s, s >= 4 && s <= 11 && s != 6 && s != 7, 0, 0, 1, NO, 3, 188, s, RETURN);
    }

    /** "172, 173, 176, 177: the method ends with I, J, R, nothing.", of "a RESULT (a kind or none)" */
    private static void ends() {
        int[] ops = {177, 172, 173, 176};
        String[] needs = {"", "I", "J", "R"};
        for (int result = NO; result <= R; result++) {
            for (int end = NO; end <= R; end++) {
                for (String stack : stacks(2)) {
                    judged(ops[end] + " on " + stack + " of a method with " + result, end == result && stack.endsWith(needs[end]),
                        0, 0, 2, result, Guest.join(pushes(stack), new int[] {ops[end]}));
                }
            }
        }
    }

    /** "191 R is thrown" */
    private static void throwing() {
        for (int result = NO; result <= R; result++) {
            for (String stack : stacks(2)) {
                judged("191 on " + stack, stack.endsWith("R"), 0, 0, 2, result, Guest.join(pushes(stack), new int[] {191}));
            }
        }
    }

    // ---- ways

    /** "all ways that meet have the same kinds on the stack" */
    private static void stacksThatMeet() {
        for (String some : stacks(3)) {
            for (String others : stacks(3)) {
                int[] first = Guest.join(pushes(some), new int[] {167, 0, 3 + others.length()});
                int[] code = Guest.join(new int[] {21, 0, 153, 0, 3 + first.length}, first, pushes(others), new int[] {RETURN});
                judged(some + " meets " + others, some.equals(others), I, 1, 12, NO, code);
            }
        }
        // A way back to the beginning meets nothing on the stack.
        for (String stack : stacks(1)) {
            judged(stack + " meets the beginning", stack.isEmpty(), 0, 0, 12, NO,
                Guest.join(pushes(stack), new int[] {167, stack.isEmpty() ? 0 : 255, 256 - stack.length() & 255}));
        }
    }

    /** "(locals that differ are of no kind from there on)" */
    private static void localsThatMeet() {
        int[] pushes = {0, 3, 9, 1};
        int[] stores = {0, 54, 55, 58};
        int[] loads = {0, 21, 22, 25};
        for (int local : new int[] {1, 2, 15}) {
            for (int some = NO; some <= R; some++) {
                for (int others = NO; others <= R; others++) {
                    int[] first = some == NO ? new int[] {0, 0, 0} : new int[] {pushes[some], stores[some], local};
                    int[] second = others == NO ? new int[] {0, 0, 0} : new int[] {pushes[others], stores[others], local};
                    int[] code = Guest.join(new int[] {21, 0, 153, 0, 9}, first, new int[] {167, 0, 6}, second);
                    String what = "local " + local + " with " + some + " and " + others;
                    judged(what, true, I, 16, 12, NO, Guest.join(code, new int[] {RETURN}));
                    for (int read = I; read <= R; read++) {
                        boolean good = some == read && others == read;
                        judged(what + " read as " + read, good, I, 16, 12, NO,
                            Guest.join(code, new int[] {loads[read], local, RETURN}));
                        judged(what + " read later", good, I, 16, 12, NO,
                            Guest.join(code, new int[] {0, 3, 87, loads[read], local, RETURN}));
                        judged(what + " set anew and read", true, I, 16, 12, NO,
                            Guest.join(code, new int[] {pushes[read], stores[read], local, loads[read], local, RETURN}));
                        judged(what + ", another read", true, I, 16, 12, NO, Guest.join(code, new int[] {21, 0, RETURN}));
                    }
                }
            }
        }
    }

    /** The same where a way back tells of it only when all behind it has been gone over. */
    private static void localsThatMeetLate() {
        for (int last = 1; last <= 15; last++) {
            // Each local gets what the one before it has, and the first gets an R at last.
            int[] code = new int[0];
            for (int i = last; i > 0; i--) code = Guest.join(code, new int[] {21, i - 1, 54, i});
            code = Guest.join(fill(last + 1, 3, 54), code, new int[] {0, 0, 0});
            int again = 3 * (last + 1);
            int[] reads = Guest.join(code, new int[] {21, last, 87}, new int[] {3, 54, 0}, wayTo(again, code.length + 6));
            judged("a kind that stays in " + last, true, 0, 16, 1, NO, reads);
            int[] loses = Guest.join(code, new int[] {21, last, 87}, new int[] {1, 58, 0}, wayTo(again, code.length + 6));
            judged("a kind that is lost up to " + last, false, 0, 16, 1, NO, loses);
        }
    }

    private static int[] wayTo(int target, int from) {
        return new int[] {167, target - from >> 8 & 255, target - from & 255};
    }

    /** "going over all ways": what none leads to is of no matter, and what one leads to is, though no run goes there */
    private static void whatNoWayLeadsTo() {
        for (int end : new int[] {172, 173, 176, 177, 167, 191}) {
            int[] before = end == 172 ? new int[] {3, 172} : end == 173 ? new int[] {9, 173} : end == 176 ? new int[] {1, 176}
                : end == 191 ? new int[] {1, 191} : end == 167 ? AWAY : new int[] {RETURN};
            int result = end == 172 ? I : end == 173 ? J : end == 176 ? R : NO;
            for (int behind : new int[] {255, 96, 16, 184, 0}) {
                judged(behind + " behind " + end, true, 0, 0, 1, result, Guest.join(before, new int[] {behind}));
            }
        }
        judged("a way that is always gone", false, 0, 0, 1, NO, 3, 153, 0, 4, 255, RETURN);
        judged("a way that is never gone", false, 0, 0, 1, NO, 3, 154, 0, 4, RETURN, 255);
        judged("both ways", true, 0, 0, 1, NO, 3, 154, 0, 4, RETURN, RETURN);
        judged("a way into the midst of an instruction", true, 0, 0, 1, NO, 167, 0, 4, 16, RETURN);
        judged("a way into the midst that is none", false, 0, 0, 1, NO, 167, 0, 4, 16, 255);
    }

    // ---- handlers

    private static void handled(String what, boolean good, int[] handler, int locals, int stack, int result, int... code) {
        Guest guest = new Guest(16);
        guest.handler(handler[0], handler[1], handler[2], handler[3]);
        CHECK.due(what, guest.method(0, locals, stack, result, code), good ? 0 : -1);
    }

    /** "from each instruction that begins in a handler's range", of "(from, up to (not itself), at, a class)" */
    private static void rangesOfHandlers() {
        // Instructions begin at 0, 2, 3, 6, 7 and 8; no way leads to 9, and no handler's place is good.
        int[] code = {16, 5, 87, 17, 0, 0, 87, 0, RETURN, 0, RETURN};
        int[] begins = {0, 2, 3, 6, 7, 8};
        for (int from = 0; from <= 12; from++) {
            for (int to = from + 1; to <= 13; to++) {
                boolean found = false;
                for (int place : begins) found |= from <= place && place < to;
                handled("a handler over " + from + " .. " + to, !found, new int[] {from, to, 200, 0}, 0, 1, NO, code);
                handled("a good handler over " + from + " .. " + to, true, new int[] {from, to, code.length, 0}, 0, 1, NO,
                    Guest.join(code, new int[] {191}));
            }
        }
        handled("a handler over the last places", true, new int[] {199, 200, 200, 0}, 0, 1, NO, code);
    }

    /** "to its place", which the code has */
    private static void placesOfHandlers() {
        int[] code = {0, RETURN, 191, 191};
        for (int at = 0; at <= 200; at++) {
            handled("a handler at " + at, at == 2 || at == 3, new int[] {0, 2, at, 0}, 0, 1, NO, code);
        }
        int[] most = new int[200];
        Arrays.fill(most, RETURN);
        handled("a handler at 199", true, new int[] {0, 1, 199, 0}, 0, 1, NO, most);
        handled("a handler at 200", false, new int[] {0, 1, 200, 0}, 0, 1, NO, most);
        for (int type = 0; type <= 6; type++) {
            handled("a handler for " + type, false, new int[] {0, 1, 200, type}, 0, 1, NO, most);
        }
        Guest guest = new Guest(16);
        for (int i = 0; i < 7; i++) guest.handler(0, 1, 2, i);
        guest.handler(0, 1, 4, 0);
        CHECK.due("an eighth that is not good", guest.method(0, 0, 1, NO, code), -1);
    }

    /** "with the locals before it" */
    private static void localsBeforeTheInstruction() {
        // Local 0 is I from place 3 on, R from 6 on.
        int[] code = {3, 54, 0, 1, 58, 0, 0, RETURN};
        int[] begins = {0, 1, 3, 4, 6, 7};
        int[] kinds = {NO, NO, I, I, R, R};
        int[] loads = {0, 21, 22, 25};
        for (int from = 0; from < 8; from++) {
            for (int to = from + 1; to <= 8; to++) {
                for (int read = I; read <= R; read++) {
                    boolean good = true;
                    for (int i = 0; i < begins.length; i++) {
                        if (from <= begins[i] && begins[i] < to) good &= kinds[i] == read;
                    }
                    handled("local 0 read as " + read + " by a handler over " + from + " .. " + to, good,
                        new int[] {from, to, 8, 0}, 1, 2, NO, Guest.join(code, new int[] {loads[read], 0, RETURN}));
                }
            }
        }
    }

    /** "and an R alone on the stack" */
    private static void aReferenceAlone() {
        for (String stack : stacks(2)) {
            // The code goes on to the handler's place with these on the stack.
            int[] code = Guest.join(pushes(stack), new int[] {0});
            handled(stack + " meets what is caught", stack.equals("R"), new int[] {0, 200, code.length, 0}, 0, 3, NO,
                Guest.join(code, new int[] {RETURN}));
            // What the instruction has below it does not come to the handler.
            handled("caught over " + stack, true, new int[] {stack.length(), 200, code.length + 1, 0}, 4, 3, NO,
                Guest.join(code, new int[] {RETURN}, new int[] {191}));
            handled("one more than what is caught over " + stack, false,
                new int[] {stack.length(), stack.length() + 1, code.length + 1, 0},
                4, 3, NO, Guest.join(code, new int[] {RETURN}, new int[] {87, 87, RETURN}));
        }
        handled("an I from a handler", false, new int[] {0, 1, 1, 0}, 4, 3, NO, RETURN, 54, 0, RETURN);
        handled("a J from a handler", false, new int[] {0, 1, 1, 0}, 4, 3, NO, RETURN, 55, 0, RETURN);
        handled("an R from a handler", true, new int[] {0, 1, 1, 0}, 4, 3, NO, RETURN, 58, 0, RETURN);
    }

    /** "for which there must be room" */
    private static void roomForTheReference() {
        handled("no room", false, new int[] {0, 1, 1, 0}, 0, 0, NO, RETURN, RETURN);
        handled("room for one", true, new int[] {0, 1, 1, 0}, 0, 1, NO, RETURN, RETURN);
        handled("no room, and no way", true, new int[] {1, 2, 1, 0}, 0, 0, NO, RETURN, RETURN);
        handled("no room behind others", false, new int[] {0, 1, 1, 0}, 0, 1, NO, RETURN, 89, RETURN);
        handled("room for two", true, new int[] {0, 1, 1, 0}, 0, 2, NO, RETURN, 89, RETURN);
    }
}
