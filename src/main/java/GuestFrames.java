import java.util.ArrayList;
import java.util.Arrays;

/** A small machine of stacks for guest code; ../shared/DOC.md says what each call promises. */
public final class GuestFrames {
    public static final int NONE = -1;

    private static final int LEAST_WORDS = 16;
    private static final int MOST_WORDS = 400;
    private static final int MOST_FED = 20;
    private static final int MOST_CODE = 200;
    private static final int MOST_CLASSES = 30;
    private static final int MOST_FIELDS = 8;
    private static final int MOST_HANDLERS = 8;
    private static final int MOST_METHODS = 20;
    private static final int MOST_ARGUMENTS = 4;
    private static final int MOST_LOCALS = 16;
    private static final int MOST_STACK = 12;
    private static final int MOST_FRAMES = 16;
    private static final int MOST_FUEL = 20000;

    // Kinds are digits of base 4, so that rows of kinds fit into one number.
    private static final int I = 1;
    private static final int J = 2;
    private static final int R = 3;

    private static final int ARITHMETIC = 1;
    private static final int NULL = 2;
    private static final int INDEX = 3;
    private static final int SIZE = 4;
    private static final int CAST = 5;
    private static final int DEPTH = 6;

    private static final int FLAGS = 4;
    private static final int CHARACTERS = 5;
    private static final int BYTES = 8;
    private static final int SHORTS = 9;
    private static final int NUMBERS = 10;
    private static final int LONGS = 11;
    private static final int REFERENCES = 12;

    private final Types types;
    private final Draft draft;
    private final ArrayList<Routine> routines;
    private final Judge judge;
    private final Machine machine;

    public GuestFrames(int words) {
        types = new Types();
        draft = new Draft();
        routines = new ArrayList<Routine>();
        judge = new Judge(types, routines);
        machine = new Machine(types, routines, Math.max(LEAST_WORDS, Math.min(MOST_WORDS, words)));
    }

    public int feed(int a, int b, int c, int d, int e, int n)
            throws IllegalArgumentException, UnsupportedOperationException {
        if (n < 1 || n > MOST_FED) throw new IllegalArgumentException("n is not 1 .. 20");
        if (draft.length + n > MOST_CODE) throw new UnsupportedOperationException("the tape is full");
        draft.append(a, n);
        draft.append(b, n - 4);
        draft.append(c, n - 8);
        draft.append(d, n - 12);
        draft.append(e, n - 16);
        return draft.length;
    }

    public int type(int parent, int fields, int refs)
            throws IndexOutOfBoundsException, IllegalArgumentException, UnsupportedOperationException {
        if (!types.has(parent)) throw new IndexOutOfBoundsException("no such parent");
        if (fields < 0 || fields > MOST_FIELDS - types.fields[parent]) {
            throw new IllegalArgumentException("fields are not such as a class may have");
        }
        if (types.known == MOST_CLASSES) throw new UnsupportedOperationException("there are 30 classes");
        return types.add(parent, fields, refs);
    }

    public int handler(int from, int to, int at, int type)
            throws IllegalArgumentException, UnsupportedOperationException {
        if (from < 0 || to <= from || to > MOST_CODE) throw new IllegalArgumentException("no such range");
        if (at < 0 || at > MOST_CODE) throw new IllegalArgumentException("no such place");
        if (!types.has(type)) throw new IllegalArgumentException("no such class");
        if (draft.handlers == MOST_HANDLERS) throw new UnsupportedOperationException("there are 8 handlers");
        draft.appendHandler(from, to, at, type);
        return draft.handlers;
    }

    public int method(int arguments, int locals, int stack, int result)
            throws IllegalArgumentException, UnsupportedOperationException {
        if (arguments < 0 || arguments > 255) throw new IllegalArgumentException("no such arguments");
        if (locals < argumentsIn(arguments) || locals > MOST_LOCALS) {
            throw new IllegalArgumentException("locals are not as many as arguments .. 16");
        }
        if (stack < 0 || stack > MOST_STACK) throw new IllegalArgumentException("stack is not 0 .. 12");
        if (result < 0 || result > R) throw new IllegalArgumentException("result is not 0 .. 3");
        if (routines.size() == MOST_METHODS) throw new UnsupportedOperationException("there are 20 methods");
        Routine routine = new Routine(draft.code(), draft.handlerRows(), arguments, locals, stack, result);
        draft.empty();
        if (!judge.findsGood(routine)) return NONE;
        routines.add(routine);
        return routines.size() - 1;
    }

    public int run(int method, long a, long b, int fuel)
            throws IndexOutOfBoundsException, IllegalArgumentException {
        if (method < 0 || method >= routines.size()) throw new IndexOutOfBoundsException("no such method");
        if (fuel < 0 || fuel > MOST_FUEL) throw new IllegalArgumentException("fuel is not 0 .. 20000");
        return machine.perform(routines.get(method), a, b, fuel);
    }

    public long result() {
        return machine.answer;
    }

    public int steps() {
        return machine.begun;
    }

    public int count(int what) throws IndexOutOfBoundsException {
        switch (what) {
            case 0: return types.known;
            case 1: return routines.size();
            case 2: return draft.length;
            case 3: return machine.latestWords;
            case 4: return machine.mostWords;
            default: throw new IndexOutOfBoundsException("there is no such what");
        }
    }

    private static int argumentsIn(int kinds) {
        int found = 0;
        while (found < MOST_ARGUMENTS && (kinds >> 2 * found & 3) != 0) found++;
        return found;
    }

    /** The classes that there are. */
    private static final class Types {
        // Bit k of a class's number here: it is of class k.
        final int[] above = new int[MOST_CLASSES];
        final int[] fields = new int[MOST_CLASSES];
        // Bit k of a class's number here: its field k is an R.
        final int[] references = new int[MOST_CLASSES];
        int known;

        Types() {
            for (int number = 0; number <= DEPTH; number++) above[number] = 1 | 1 << number;
            known = DEPTH + 1;
        }

        boolean has(int number) {
            return number >= 0 && number < known;
        }

        int add(int parent, int more, int bits) {
            int number = known;
            int first = fields[parent];
            above[number] = above[parent] | 1 << number;
            fields[number] = first + more;
            references[number] = references[parent] | (bits & (1 << more) - 1) << first;
            known++;
            return number;
        }

        int kindOfField(int number, int field) {
            return (references[number] >> field & 1) == 1 ? R : I;
        }
    }

    /** The tape and the handlers from which the next method is made. */
    private static final class Draft {
        private final byte[] tape = new byte[MOST_CODE];
        private final int[] rows = new int[MOST_HANDLERS * Routine.HANDLER];
        int length;
        int handlers;

        void append(int four, int wanted) {
            int bytes = Math.min(4, wanted);
            for (int i = 0; i < bytes; i++) {
                tape[length] = (byte) (four >> 24 - 8 * i);
                length++;
            }
        }

        void appendHandler(int from, int to, int at, int type) {
            int first = handlers * Routine.HANDLER;
            rows[first] = from;
            rows[first + 1] = to;
            rows[first + 2] = at;
            rows[first + 3] = type;
            handlers++;
        }

        byte[] code() {
            return Arrays.copyOf(tape, length);
        }

        int[] handlerRows() {
            return Arrays.copyOf(rows, handlers * Routine.HANDLER);
        }

        void empty() {
            length = 0;
            handlers = 0;
        }
    }

    /** A method of the guest. */
    private static final class Routine {
        static final int HANDLER = 4;

        final byte[] code;
        // Four numbers a handler: from, to, at, class.
        final int[] handlers;
        final int arguments;
        final int kinds;
        final int locals;
        final int stack;
        final int end;

        Routine(byte[] code, int[] handlers, int digits, int locals, int stack, int end) {
            this.code = code;
            this.handlers = handlers;
            arguments = argumentsIn(digits);
            kinds = digits & (1 << 2 * arguments) - 1;
            this.locals = locals;
            this.stack = stack;
            this.end = end;
        }

        int at(int place) {
            return code[place] & 255;
        }

        int pairAt(int place) {
            return code[place] << 8 | code[place + 1] & 255;
        }

        int kindOfArgument(int argument) {
            return kinds >> 2 * argument & 3;
        }

        boolean guards(int row, int place) {
            return handlers[row] <= place && place < handlers[row + 1];
        }

        int placeToCatch(int place, int classes) {
            for (int row = 0; row < handlers.length; row += HANDLER) {
                if (guards(row, place) && (classes >> handlers[row + 3] & 1) == 1) return handlers[row + 2];
            }
            return NONE;
        }
    }

    /** The instructions by their published names, and what is the same for every use of one. */
    private static final class Op {
        static final int NOP = 0, ACONST_NULL = 1, ICONST_M1 = 2, ICONST_0 = 3, ICONST_5 = 8;
        static final int LCONST_0 = 9, LCONST_1 = 10, BIPUSH = 16, SIPUSH = 17;
        static final int ILOAD = 21, LLOAD = 22, ALOAD = 25;
        static final int IALOAD = 46, LALOAD = 47, AALOAD = 50, BALOAD = 51, CALOAD = 52, SALOAD = 53;
        static final int ISTORE = 54, LSTORE = 55, ASTORE = 58;
        static final int IASTORE = 79, LASTORE = 80, AASTORE = 83, BASTORE = 84, CASTORE = 85, SASTORE = 86;
        static final int POP = 87, POP2 = 88, DUP = 89, SWAP = 95;
        static final int IADD = 96, LADD = 97, ISUB = 100, LSUB = 101, IMUL = 104, LMUL = 105;
        static final int IDIV = 108, LDIV = 109, IREM = 112, LREM = 113, INEG = 116, LNEG = 117;
        static final int ISHL = 120, LSHL = 121, ISHR = 122, LSHR = 123, IUSHR = 124, LUSHR = 125;
        static final int IAND = 126, LAND = 127, IOR = 128, LOR = 129, IXOR = 130, LXOR = 131;
        static final int IINC = 132, I2L = 133, L2I = 136, I2B = 145, I2C = 146, I2S = 147, LCMP = 148;
        static final int IFEQ = 153, IFNE = 154, IFLT = 155, IFGE = 156, IFGT = 157, IFLE = 158;
        static final int IF_ICMPEQ = 159, IF_ICMPLE = 164, IF_ACMPEQ = 165, IF_ACMPNE = 166;
        static final int GOTO = 167, IRETURN = 172, LRETURN = 173, ARETURN = 176, RETURN = 177;
        static final int GETFIELD = 180, PUTFIELD = 181, INVOKESTATIC = 184, NEW = 187, NEWARRAY = 188;
        static final int ANEWARRAY = 189, ARRAYLENGTH = 190, ATHROW = 191, CHECKCAST = 192;
        static final int INSTANCEOF = 193, IFNULL = 198, IFNONNULL = 199;

        // Kinds as they stand on the stack, the last one on top.
        static final int I_I = I << 2 | I, J_I = J << 2 | I, J_J = J << 2 | J, R_I = R << 2 | I, R_R = R << 2 | R;
        static final int R_I_I = R_I << 2 | I, R_I_J = R_I << 2 | J, R_I_R = R_I << 2 | R;

        /** 0 if there is no such instruction. */
        static int shape(int op) {
            if (op < POP) return shapeOfMove(op);
            if (op < IFEQ) return shapeOfReckoning(op);
            return op < GETFIELD || op >= IFNULL ? shapeOfWay(op) : shapeOfHeapUse(op);
        }

        static int bytes(int shape) {
            return shape >> 16;
        }

        static int takes(int shape) {
            return shape >> 8 & 255;
        }

        static int leaves(int shape) {
            return shape & 255;
        }

        static boolean jumps(int op) {
            return op >= IFEQ && op <= GOTO || op == IFNULL || op == IFNONNULL;
        }

        static boolean goesOn(int op) {
            return op < GOTO || op > RETURN && op != ATHROW;
        }

        private static int pack(int bytes, int takes, int leaves) {
            return bytes << 16 | takes << 8 | leaves;
        }

        private static int shapeOfMove(int op) {
            if (op >= ICONST_M1 && op <= ICONST_5) return pack(1, 0, I);
            switch (op) {
                case NOP: return pack(1, 0, 0);
                case ACONST_NULL: return pack(1, 0, R);
                case LCONST_0: case LCONST_1: return pack(1, 0, J);
                case BIPUSH: case ILOAD: return pack(2, 0, I);
                case SIPUSH: return pack(3, 0, I);
                case LLOAD: return pack(2, 0, J);
                case ALOAD: return pack(2, 0, R);
                case ISTORE: return pack(2, I, 0);
                case LSTORE: return pack(2, J, 0);
                case ASTORE: return pack(2, R, 0);
                case IALOAD: case BALOAD: case CALOAD: case SALOAD: return pack(1, R_I, I);
                case LALOAD: return pack(1, R_I, J);
                case AALOAD: return pack(1, R_I, R);
                case IASTORE: case BASTORE: case CASTORE: case SASTORE: return pack(1, R_I_I, 0);
                case LASTORE: return pack(1, R_I_J, 0);
                case AASTORE: return pack(1, R_I_R, 0);
                default: return 0;
            }
        }

        /** POP, DUP and SWAP take what stands there: the judge looks at that. */
        private static int shapeOfReckoning(int op) {
            switch (op) {
                case POP: case DUP: case SWAP: return pack(1, 0, 0);
                case POP2: return pack(1, J, 0);
                case IADD: case ISUB: case IMUL: case IDIV: case IREM: return pack(1, I_I, I);
                case ISHL: case ISHR: case IUSHR: case IAND: case IOR: case IXOR: return pack(1, I_I, I);
                case LADD: case LSUB: case LMUL: case LDIV: case LREM: return pack(1, J_J, J);
                case LAND: case LOR: case LXOR: return pack(1, J_J, J);
                case LSHL: case LSHR: case LUSHR: return pack(1, J_I, J);
                case INEG: case I2B: case I2C: case I2S: return pack(1, I, I);
                case LNEG: return pack(1, J, J);
                case IINC: return pack(3, 0, 0);
                case I2L: return pack(1, I, J);
                case L2I: return pack(1, J, I);
                case LCMP: return pack(1, J_J, I);
                default: return 0;
            }
        }

        private static int shapeOfWay(int op) {
            if (op <= IFLE) return pack(3, I, 0);
            if (op <= IF_ICMPLE) return pack(3, I_I, 0);
            switch (op) {
                case IF_ACMPEQ: case IF_ACMPNE: return pack(3, R_R, 0);
                case IFNULL: case IFNONNULL: return pack(3, R, 0);
                case GOTO: return pack(3, 0, 0);
                case IRETURN: return pack(1, I, 0);
                case LRETURN: return pack(1, J, 0);
                case ARETURN: return pack(1, R, 0);
                case RETURN: return pack(1, 0, 0);
                default: return 0;
            }
        }

        /** What fields and calls take and leave, their numbers tell: the judge looks at that. */
        private static int shapeOfHeapUse(int op) {
            switch (op) {
                case GETFIELD: return pack(3, R, 0);
                case PUTFIELD: return pack(3, 0, 0);
                case INVOKESTATIC: return pack(2, 0, 0);
                case NEW: return pack(2, 0, R);
                case NEWARRAY: return pack(2, I, R);
                case ANEWARRAY: return pack(1, I, R);
                case ARRAYLENGTH: return pack(1, R, I);
                case ATHROW: return pack(1, R, 0);
                case CHECKCAST: return pack(2, R, R);
                case INSTANCEOF: return pack(2, R, I);
                default: return 0;
            }
        }
    }

    /** Goes over all ways of a method before it may run, so that a run need not look at kinds and places. */
    private static final class Judge {
        // A visit is due when a place is new or a local has lost its kind: at most 17 times a place.
        private static final int MOST_VISITS = MOST_CODE * (MOST_LOCALS + 1);

        private final Types types;
        private final ArrayList<Routine> routines;
        // These rows have what is known of each place of the code.
        private final boolean[] seen = new boolean[MOST_CODE];
        private final boolean[] waits = new boolean[MOST_CODE];
        private final int[] waiting = new int[MOST_CODE];
        // Kinds on the stack before the instruction at a place, two bits each, the top one lowest.
        private final int[] stackAt = new int[MOST_CODE];
        // Kinds of locals there, two bits each, local 0 lowest; 0 is no kind.
        private final int[] localsAt = new int[MOST_CODE];
        private int waitingPlaces;
        private Routine routine;
        private boolean good;
        private int stack;
        private int locals;

        Judge(Types types, ArrayList<Routine> routines) {
            this.types = types;
            this.routines = routines;
        }

        boolean findsGood(Routine candidate) {
            routine = candidate;
            good = true;
            waitingPlaces = 0;
            for (int place = 0; place < MOST_CODE; place++) {
                seen[place] = false;
                waits[place] = false;
            }
            lead(0, 0, candidate.kinds);
            for (int visit = 0; visit < MOST_VISITS && good && waitingPlaces > 0; visit++) {
                waitingPlaces--;
                int place = waiting[waitingPlaces];
                waits[place] = false;
                look(place);
            }
            return good;
        }

        private void require(boolean holds) {
            if (!holds) good = false;
        }

        private void look(int place) {
            int op = routine.at(place);
            int shape = Op.shape(op);
            int next = place + Op.bytes(shape);
            require(next > place && next <= routine.code.length);
            if (!good) return;
            stack = stackAt[place];
            locals = localsAt[place];
            leadToHandlers(place);
            take(Op.takes(shape));
            heed(op, place, shape);
            give(Op.leaves(shape));
            if (!good) return;
            if (Op.jumps(op)) lead(place + routine.pairAt(place + 1), stack, locals);
            if (Op.goesOn(op)) lead(next, stack, locals);
        }

        private void leadToHandlers(int place) {
            int[] rows = routine.handlers;
            for (int row = 0; row < rows.length; row += Routine.HANDLER) {
                if (!routine.guards(row, place)) continue;
                require(routine.stack > 0);
                lead(rows[row + 2], R, locals);
            }
        }

        private void lead(int place, int stackThere, int localsThere) {
            require(place >= 0 && place < routine.code.length);
            if (!good) return;
            if (!seen[place]) {
                seen[place] = true;
                stackAt[place] = stackThere;
                localsAt[place] = localsThere;
                await(place);
                return;
            }
            require(stackAt[place] == stackThere);
            int common = commonKinds(localsAt[place], localsThere);
            if (common != localsAt[place]) {
                localsAt[place] = common;
                await(place);
            }
        }

        private void await(int place) {
            if (waits[place]) return;
            waits[place] = true;
            waiting[waitingPlaces] = place;
            waitingPlaces++;
        }

        private static int commonKinds(int some, int others) {
            int differing = some ^ others;
            int low = (differing | differing >>> 1) & 0x55555555;
            return some & ~(low | low << 1);
        }

        private void take(int kinds) {
            int bits = kinds == 0 ? 0 : kinds < 4 ? 2 : kinds < 16 ? 4 : 6;
            require((stack & (1 << bits) - 1) == kinds);
            stack >>>= bits;
        }

        private int takeNarrow() {
            int kind = stack & 3;
            require(kind == I || kind == R);
            stack >>>= 2;
            return kind;
        }

        private void give(int kind) {
            if (kind == 0) return;
            stack = stack << 2 | kind;
            require(stack >>> 2 * routine.stack == 0);
        }

        /** What is not the same for every use of an instruction. */
        private void heed(int op, int place, int shape) {
            switch (op) {
                case Op.ILOAD: case Op.LLOAD: case Op.ALOAD: readLocal(routine.at(place + 1), Op.leaves(shape)); break;
                case Op.ISTORE: case Op.LSTORE: case Op.ASTORE: setLocal(routine.at(place + 1), Op.takes(shape)); break;
                case Op.IINC: readLocal(routine.at(place + 1), I); break;
                case Op.POP: takeNarrow(); break;
                case Op.DUP: duplicate(); break;
                case Op.SWAP: exchange(); break;
                case Op.IRETURN: case Op.LRETURN: case Op.ARETURN: case Op.RETURN:
                    require(routine.end == Op.takes(shape));
                    break;
                case Op.GETFIELD: give(fieldKind(place)); break;
                case Op.PUTFIELD:
                    take(fieldKind(place));
                    take(R);
                    break;
                case Op.INVOKESTATIC: passCall(routine.at(place + 1)); break;
                case Op.NEW: case Op.CHECKCAST: case Op.INSTANCEOF: require(types.has(routine.at(place + 1))); break;
                case Op.NEWARRAY: require(isSortOfNumbers(routine.at(place + 1))); break;
                default: break;
            }
        }

        private void readLocal(int number, int kind) {
            require(number < routine.locals && (locals >>> 2 * number & 3) == kind);
        }

        private void setLocal(int number, int kind) {
            require(number < routine.locals);
            locals = locals & ~(3 << 2 * number) | kind << 2 * number;
        }

        private void duplicate() {
            int kind = takeNarrow();
            give(kind);
            give(kind);
        }

        private void exchange() {
            int top = takeNarrow();
            int below = takeNarrow();
            give(top);
            give(below);
        }

        private int fieldKind(int place) {
            int type = routine.at(place + 1);
            int field = routine.at(place + 2);
            boolean has = types.has(type) && field < types.fields[type];
            require(has);
            return has ? types.kindOfField(type, field) : 0;
        }

        private void passCall(int number) {
            require(number <= routines.size());
            Routine called = number < routines.size() ? routines.get(number) : routine;
            for (int i = called.arguments - 1; i >= 0; i--) take(called.kindOfArgument(i));
            give(called.end);
        }

        private static boolean isSortOfNumbers(int sort) {
            return sort >= FLAGS && sort <= LONGS && sort != 6 && sort != 7;
        }
    }

    /** Objects and arrays, known by handles above 0, so that moving them together changes no reference. */
    private static final class Heap {
        private static final int HEADER = 2;

        private final Types types;
        // Each one has here its tag (a class, or minus a sort), its length and what it holds.
        private final int[] words;
        private final int[] start;
        private final int[] size;
        private final int[] reachedIn;
        // Handles in use first, in the order of their words, then those that are free.
        private final int[] order;
        private final int[] reached;
        private int used;
        private int top;
        private int search;
        private int reachedHandles;

        Heap(Types types, int room) {
            this.types = types;
            int handles = room / HEADER;
            words = new int[room];
            start = new int[handles + 1];
            size = new int[handles + 1];
            reachedIn = new int[handles + 1];
            order = new int[handles];
            reached = new int[handles];
            for (int i = 0; i < handles; i++) order[i] = i + 1;
        }

        static long wordsOfArray(int sort, long length) {
            switch (sort) {
                case FLAGS: case BYTES: return HEADER + (length + 3) / 4;
                case CHARACTERS: case SHORTS: return HEADER + (length + 1) / 2;
                case LONGS: return HEADER + 2 * length;
                default: return HEADER + length;
            }
        }

        int wordsOfObject(int type) {
            return HEADER + types.fields[type];
        }

        void empty() {
            used = 0;
            top = 0;
        }

        void beginSearch() {
            search++;
            reachedHandles = 0;
        }

        void reach(int handle) {
            if (handle == 0 || reachedIn[handle] == search) return;
            reachedIn[handle] = search;
            reached[reachedHandles] = handle;
            reachedHandles++;
        }

        /** Ends the search: the words of what was reached and what that has in turn. */
        int reachedWords() {
            int sum = 0;
            for (int i = 0; i < reached.length && i < reachedHandles; i++) {
                sum += size[reached[i]];
                reachWhatHas(reached[i]);
            }
            return sum;
        }

        private void reachWhatHas(int handle) {
            int first = start[handle] + HEADER;
            int held = size[handle] - HEADER;
            int tag = tag(handle);
            if (tag < 0 && tag != -REFERENCES) return;
            for (int i = 0; i < held; i++) {
                if (tag < 0 || types.kindOfField(tag, i) == R) reach(words[first + i]);
            }
        }

        /** Behind a search that found room for it; all it holds is 0. */
        int add(int tag, int length, int wanted) {
            if (top + wanted > words.length || used == order.length) sweep();
            int handle = order[used];
            used++;
            start[handle] = top;
            size[handle] = wanted;
            Arrays.fill(words, top, top + wanted, 0);
            words[top] = tag;
            words[top + 1] = length;
            top += wanted;
            return handle;
        }

        private void sweep() {
            int kept = 0;
            int free = 0;
            for (int i = 0; i < used; i++) {
                int handle = order[i];
                if (reachedIn[handle] != search) continue;
                System.arraycopy(words, start[handle], words, free, size[handle]);
                start[handle] = free;
                free += size[handle];
                order[i] = order[kept];
                order[kept] = handle;
                kept++;
            }
            used = kept;
            top = free;
        }

        int tag(int handle) {
            return words[start[handle]];
        }

        int length(int handle) {
            return words[start[handle] + 1];
        }

        boolean isArray(int handle) {
            return tag(handle) < 0;
        }

        /** The classes that it is of, as bits; an array is of class 0 alone. */
        int classes(int handle) {
            int tag = tag(handle);
            return tag < 0 ? 1 : types.above[tag];
        }

        int field(int handle, int field) {
            return words[start[handle] + HEADER + field];
        }

        void setField(int handle, int field, int value) {
            words[start[handle] + HEADER + field] = value;
        }

        long element(int handle, int index) {
            int first = start[handle] + HEADER;
            switch (-tag(handle)) {
                case FLAGS: case BYTES: return (byte) (words[first + index / 4] >> index % 4 * 8);
                case CHARACTERS: return (char) (words[first + index / 2] >> index % 2 * 16);
                case SHORTS: return (short) (words[first + index / 2] >> index % 2 * 16);
                case LONGS: return (long) words[first + 2 * index] << 32 | words[first + 2 * index + 1] & 0xFFFFFFFFL;
                default: return words[first + index];
            }
        }

        void setElement(int handle, int index, long value) {
            int first = start[handle] + HEADER;
            switch (-tag(handle)) {
                case FLAGS: setBits(first + index / 4, index % 4 * 8, 0xFF, (int) value & 1); break;
                case BYTES: setBits(first + index / 4, index % 4 * 8, 0xFF, (int) value); break;
                case CHARACTERS: case SHORTS: setBits(first + index / 2, index % 2 * 16, 0xFFFF, (int) value); break;
                case LONGS:
                    words[first + 2 * index] = (int) (value >> 32);
                    words[first + 2 * index + 1] = (int) value;
                    break;
                default: words[first + index] = (int) value; break;
            }
        }

        private void setBits(int word, int shift, int mask, int value) {
            words[word] = words[word] & ~(mask << shift) | (value & mask) << shift;
        }
    }

    /** Locals and the stack of a method under way. A slot has a number or a reference: what is no reference has 0 there. */
    private static final class Frame {
        private static final int STACK = MOST_LOCALS;

        private final long[] numbers = new long[STACK + MOST_STACK];
        private final int[] references = new int[STACK + MOST_STACK];
        private int top = STACK;
        private Routine routine;
        int place;

        Frame(Routine nothing) {
            routine = nothing;
        }

        Routine routine() {
            return routine;
        }

        void begin(Routine begun) {
            routine = begun;
            place = 0;
            top = STACK;
            Arrays.fill(references, 0, STACK, 0);
        }

        int opcode() {
            return routine.at(place);
        }

        int operand(int behind) {
            return routine.at(place + behind);
        }

        int pair() {
            return routine.pairAt(place + 1);
        }

        long number(int below) {
            return numbers[top - 1 - below];
        }

        int reference(int below) {
            return references[top - 1 - below];
        }

        void drop(int values) {
            top -= values;
        }

        void pushNumber(long value) {
            setNumber(top, value);
            top++;
        }

        void pushReference(int handle) {
            references[top] = handle;
            top++;
        }

        void setNumber(int slot, long value) {
            numbers[slot] = value;
            references[slot] = 0;
        }

        void pushLocal(int local) {
            copySlot(this, local, top);
            top++;
        }

        void popLocal(int local) {
            top--;
            copySlot(this, top, local);
        }

        void increase(int local, int by) {
            numbers[local] = (int) (numbers[local] + by);
        }

        void duplicate() {
            copySlot(this, top - 1, top);
            top++;
        }

        void exchange() {
            long number = numbers[top - 1];
            int reference = references[top - 1];
            copySlot(this, top - 2, top - 1);
            numbers[top - 2] = number;
            references[top - 2] = reference;
        }

        void takeArguments(Frame caller) {
            int arguments = routine.arguments;
            caller.drop(arguments);
            for (int i = 0; i < arguments; i++) copySlot(caller, caller.top + i, i);
        }

        void catchAt(int at, int thrown) {
            place = at;
            top = STACK;
            pushReference(thrown);
        }

        void showReferences(Heap heap) {
            for (int slot = 0; slot < top; slot++) heap.reach(references[slot]);
        }

        private void copySlot(Frame other, int from, int to) {
            numbers[to] = other.numbers[from];
            references[to] = other.references[from];
        }
    }

    /** Runs methods that the judge found good: what stands on stacks, in locals and in code needs no look here. */
    private static final class Machine {
        private static final int UNDER_WAY = -1;
        private static final int ENDED = 0;
        private static final int THROWN = 1;
        private static final int NO_FUEL = 2;
        private static final int NO_ROOM = 3;

        private final Types types;
        private final ArrayList<Routine> routines;
        private final Heap heap;
        private final int room;
        private final Frame[] frames;
        private Frame frame;
        private int depth;
        private int outcome;
        long answer;
        int begun;
        int latestWords;
        int mostWords;

        Machine(Types types, ArrayList<Routine> routines, int room) {
            this.types = types;
            this.routines = routines;
            this.room = room;
            heap = new Heap(types, room);
            frames = new Frame[MOST_FRAMES];
            Routine nothing = new Routine(new byte[0], new int[0], 0, 0, 0, 0);
            for (int i = 0; i < MOST_FRAMES; i++) frames[i] = new Frame(nothing);
            frame = frames[0];
        }

        int perform(Routine routine, long a, long b, int fuel) {
            heap.empty();
            answer = 0;
            begun = 0;
            latestWords = 0;
            mostWords = 0;
            outcome = UNDER_WAY;
            beginFirst(routine, a, b);
            while (begun < fuel && outcome == UNDER_WAY) {
                begun++;
                int exception = step();
                if (exception != 0) raise(exception);
            }
            if (outcome == UNDER_WAY) outcome = NO_FUEL;
            return outcome;
        }

        private void beginFirst(Routine routine, long a, long b) {
            depth = 0;
            frame = frames[0];
            frame.begin(routine);
            long now = a;
            long then = b;
            for (int i = 0; i < routine.arguments; i++) {
                int kind = routine.kindOfArgument(i);
                if (kind == R) continue;
                frame.setNumber(i, kind == I ? (int) now : now);
                long turn = now;
                now = then;
                then = turn;
            }
        }

        /** The class of the exception that the instruction meets, or 0; the stack is then as before it. */
        private int step() {
            int op = frame.opcode();
            if (op <= Op.ALOAD) return push(op);
            if (op <= Op.SALOAD) return loadElement(op);
            if (op <= Op.ASTORE) return storeLocal();
            if (op <= Op.SASTORE) return storeElement(op);
            if (op <= Op.SWAP) return shuffle(op);
            if (op <= Op.LXOR) return reckon(op);
            if (op <= Op.LCMP) return convert(op);
            if (op <= Op.GOTO || op >= Op.IFNULL) return branch(op);
            if (op <= Op.RETURN) return leave(op);
            switch (op) {
                case Op.GETFIELD: return readField();
                case Op.PUTFIELD: return writeField();
                case Op.INVOKESTATIC: return call();
                case Op.NEW: return makeObject();
                case Op.NEWARRAY: return makeArray(frame.operand(1), 2);
                case Op.ANEWARRAY: return makeArray(REFERENCES, 1);
                case Op.ARRAYLENGTH: return tellLength();
                case Op.ATHROW: return throwTop();
                case Op.CHECKCAST: return cast();
                default: return tellWhetherOf();
            }
        }

        private int goOn(int bytes) {
            frame.place += bytes;
            return 0;
        }

        private int push(int op) {
            switch (op) {
                case Op.NOP: return goOn(1);
                case Op.ACONST_NULL:
                    frame.pushReference(0);
                    return goOn(1);
                case Op.LCONST_0: case Op.LCONST_1:
                    frame.pushNumber(op - Op.LCONST_0);
                    return goOn(1);
                case Op.BIPUSH:
                    frame.pushNumber((byte) frame.operand(1));
                    return goOn(2);
                case Op.SIPUSH:
                    frame.pushNumber(frame.pair());
                    return goOn(3);
                case Op.ILOAD: case Op.LLOAD: case Op.ALOAD:
                    frame.pushLocal(frame.operand(1));
                    return goOn(2);
                default:
                    frame.pushNumber(op - Op.ICONST_0);
                    return goOn(1);
            }
        }

        private int storeLocal() {
            frame.popLocal(frame.operand(1));
            return goOn(2);
        }

        private int loadElement(int op) {
            int array = frame.reference(1);
            int index = (int) frame.number(0);
            int exception = faultOfElement(op - Op.IALOAD, array, index);
            if (exception != 0) return exception;
            long value = heap.element(array, index);
            frame.drop(2);
            if (op == Op.AALOAD) frame.pushReference((int) value);
            else frame.pushNumber(value);
            return goOn(1);
        }

        private int storeElement(int op) {
            int array = frame.reference(2);
            int index = (int) frame.number(1);
            int exception = faultOfElement(op - Op.IASTORE, array, index);
            if (exception != 0) return exception;
            heap.setElement(array, index, op == Op.AASTORE ? frame.reference(0) : frame.number(0));
            frame.drop(3);
            return goOn(1);
        }

        private int faultOfElement(int use, int array, int index) {
            if (array == 0) return NULL;
            if (!isForSort(use, -heap.tag(array))) return CAST;
            return index < 0 || index >= heap.length(array) ? INDEX : 0;
        }

        /** Uses go in the same order from IALOAD on and from IASTORE on. */
        private static boolean isForSort(int use, int sort) {
            switch (use + Op.IALOAD) {
                case Op.IALOAD: return sort == NUMBERS;
                case Op.LALOAD: return sort == LONGS;
                case Op.AALOAD: return sort == REFERENCES;
                case Op.BALOAD: return sort == BYTES || sort == FLAGS;
                case Op.CALOAD: return sort == CHARACTERS;
                default: return sort == SHORTS;
            }
        }

        private int shuffle(int op) {
            switch (op) {
                case Op.DUP: frame.duplicate(); break;
                case Op.SWAP: frame.exchange(); break;
                default: frame.drop(1); break;
            }
            return goOn(1);
        }

        /** Of each pair of instructions the even one is for I, the odd one for J. */
        private int reckon(int op) {
            boolean narrow = op % 2 == 0;
            int way = op - op % 2;
            long second = frame.number(0);
            if (way == Op.INEG) {
                frame.drop(1);
                frame.pushNumber(narrow ? (int) -second : -second);
                return goOn(1);
            }
            if ((way == Op.IDIV || way == Op.IREM) && second == 0) return ARITHMETIC;
            long first = frame.number(1);
            boolean moves = way >= Op.ISHL && way <= Op.IUSHR;
            long value = moves ? moved(way, first, second, narrow) : combined(way, first, second);
            frame.drop(2);
            frame.pushNumber(narrow ? (int) value : value);
            return goOn(1);
        }

        /** The divisor has been looked at. */
        private static long combined(int way, long first, long second) {
            switch (way) {
                case Op.IADD: return first + second;
                case Op.ISUB: return first - second;
                case Op.IMUL: return first * second;
                case Op.IDIV: return first / second;
                case Op.IREM: return first % second;
                case Op.IAND: return first & second;
                case Op.IOR: return first | second;
                default: return first ^ second;
            }
        }

        private static long moved(int way, long value, long by, boolean narrow) {
            int places = (int) by & (narrow ? 31 : 63);
            switch (way) {
                case Op.ISHL: return value << places;
                case Op.ISHR: return value >> places;
                default: return (narrow ? value & 0xFFFFFFFFL : value) >>> places;
            }
        }

        private int convert(int op) {
            if (op == Op.IINC) {
                frame.increase(frame.operand(1), (byte) frame.operand(2));
                return goOn(3);
            }
            long value = frame.number(0);
            if (op == Op.LCMP) {
                int order = Long.compare(frame.number(1), value);
                frame.drop(2);
                frame.pushNumber(order);
                return goOn(1);
            }
            frame.drop(1);
            frame.pushNumber(converted(op, value));
            return goOn(1);
        }

        private static long converted(int op, long value) {
            switch (op) {
                case Op.L2I: return (int) value;
                case Op.I2B: return (byte) value;
                case Op.I2C: return (char) value;
                case Op.I2S: return (short) value;
                default: return value;
            }
        }

        private int branch(int op) {
            boolean goes;
            int values;
            if (op == Op.GOTO) {
                goes = true;
                values = 0;
            } else if (op <= Op.IFLE) {
                goes = holds(op, frame.number(0), 0);
                values = 1;
            } else if (op <= Op.IF_ICMPLE) {
                goes = holds(op - Op.IF_ICMPEQ + Op.IFEQ, frame.number(1), frame.number(0));
                values = 2;
            } else if (op <= Op.IF_ACMPNE) {
                goes = (frame.reference(0) == frame.reference(1)) == (op == Op.IF_ACMPEQ);
                values = 2;
            } else {
                goes = (frame.reference(0) == 0) == (op == Op.IFNULL);
                values = 1;
            }
            frame.drop(values);
            return goOn(goes ? frame.pair() : 3);
        }

        private static boolean holds(int test, long first, long second) {
            switch (test) {
                case Op.IFEQ: return first == second;
                case Op.IFNE: return first != second;
                case Op.IFLT: return first < second;
                case Op.IFGE: return first >= second;
                case Op.IFGT: return first > second;
                default: return first <= second;
            }
        }

        private int leave(int op) {
            if (depth == 0) {
                outcome = ENDED;
                if (op == Op.ARETURN) answer = frame.reference(0) == 0 ? 0 : 1;
                else if (op != Op.RETURN) answer = frame.number(0);
                return 0;
            }
            Frame ended = frame;
            depth--;
            frame = frames[depth];
            if (op == Op.ARETURN) frame.pushReference(ended.reference(0));
            else if (op != Op.RETURN) frame.pushNumber(ended.number(0));
            // The caller's place is still that of the call.
            return goOn(2);
        }

        private int call() {
            int number = frame.operand(1);
            if (depth + 1 == MOST_FRAMES) return DEPTH;
            Frame caller = frame;
            depth++;
            frame = frames[depth];
            frame.begin(routines.get(number));
            frame.takeArguments(caller);
            return 0;
        }

        private int readField() {
            int type = frame.operand(1);
            int field = frame.operand(2);
            int object = frame.reference(0);
            int exception = faultOfObject(object, type);
            if (exception != 0) return exception;
            int value = heap.field(object, field);
            frame.drop(1);
            if (types.kindOfField(type, field) == R) frame.pushReference(value);
            else frame.pushNumber(value);
            return goOn(3);
        }

        private int writeField() {
            int type = frame.operand(1);
            int field = frame.operand(2);
            int object = frame.reference(1);
            int exception = faultOfObject(object, type);
            if (exception != 0) return exception;
            boolean isReference = types.kindOfField(type, field) == R;
            heap.setField(object, field, isReference ? frame.reference(0) : (int) frame.number(0));
            frame.drop(2);
            return goOn(3);
        }

        private int faultOfObject(int object, int type) {
            if (object == 0) return NULL;
            return isOf(object, type) ? 0 : CAST;
        }

        private boolean isOf(int handle, int type) {
            return (heap.classes(handle) >> type & 1) == 1;
        }

        private int makeObject() {
            int type = frame.operand(1);
            int made = make(type, 0, heap.wordsOfObject(type));
            if (made == 0) return 0;
            frame.pushReference(made);
            return goOn(2);
        }

        private int makeArray(int sort, int bytes) {
            int length = (int) frame.number(0);
            if (length < 0) return SIZE;
            int made = make(-sort, length, Heap.wordsOfArray(sort, length));
            if (made == 0) return 0;
            frame.drop(1);
            frame.pushReference(made);
            return goOn(bytes);
        }

        /** 0 if there is no room: then the run has ended. */
        private int make(int tag, int length, long wanted) {
            heap.beginSearch();
            for (int i = 0; i <= depth; i++) frames[i].showReferences(heap);
            long sum = heap.reachedWords() + wanted;
            if (sum > room) {
                outcome = NO_ROOM;
                return 0;
            }
            latestWords = (int) sum;
            mostWords = Math.max(mostWords, latestWords);
            return heap.add(tag, length, (int) wanted);
        }

        private int tellLength() {
            int array = frame.reference(0);
            if (array == 0) return NULL;
            if (!heap.isArray(array)) return CAST;
            frame.drop(1);
            frame.pushNumber(heap.length(array));
            return goOn(1);
        }

        private int throwTop() {
            int thrown = frame.reference(0);
            if (thrown == 0) return NULL;
            if (heap.isArray(thrown)) return CAST;
            unwind(thrown);
            return 0;
        }

        private int cast() {
            int cast = frame.reference(0);
            return cast == 0 || isOf(cast, frame.operand(1)) ? goOn(2) : CAST;
        }

        private int tellWhetherOf() {
            int asked = frame.reference(0);
            boolean is = asked != 0 && isOf(asked, frame.operand(1));
            frame.drop(1);
            frame.pushNumber(is ? 1 : 0);
            return goOn(2);
        }

        private void raise(int exception) {
            int thrown = make(exception, 0, heap.wordsOfObject(exception));
            if (thrown != 0) unwind(thrown);
        }

        private void unwind(int thrown) {
            int classes = heap.classes(thrown);
            for (int i = depth; i >= 0; i--) {
                int at = frames[i].routine().placeToCatch(frames[i].place, classes);
                if (at == NONE) continue;
                depth = i;
                frame = frames[i];
                frame.catchAt(at, thrown);
                return;
            }
            outcome = THROWN;
            answer = heap.tag(thrown);
        }
    }
}
