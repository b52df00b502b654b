import java.util.ArrayList;
import java.util.Arrays;
import java.util.List;
import java.util.Random;

/** Code made at random, on the program and on the model: the same answers to every call. */
public final class ModelTest {
    private static final Check CHECK = new Check("ModelTest");
    private static final int[] OUTCOMES = new int[4];
    private static final int[] THROWN = new int[31];
    private static int good;
    private static int bad;
    private static long largest;

    public static void main(String[] args) {
        int machines = args.length > 0 ? Integer.parseInt(args[0]) : 1500;
        int first = args.length > 1 ? Integer.parseInt(args[1]) : 0;
        for (int seed = first; seed < first + machines; seed++) machine(seed);
        System.out.println("ModelTest: " + good + " good methods, " + bad + " that are not; outcomes " + OUTCOMES[0] + ", "
            + OUTCOMES[1] + ", " + OUTCOMES[2] + ", " + OUTCOMES[3] + "; most words " + largest);
        for (int i = 0; i < 4; i++) CHECK.holds("outcome " + i + " came", OUTCOMES[i] > machines / 10);
        for (int i = 1; i <= 6; i++) CHECK.holds("exception " + i + " came", THROWN[i] > 0);
        CHECK.holds("good and bad methods came", good > machines && bad > machines);
        CHECK.end();
    }

    private static void machine(int seed) {
        // Neighbouring seeds begin alike unless they are spread.
        Random random = new Random(seed * 0x9E3779B97F4A7C15L);
        int words = 10 + random.nextInt(random.nextBoolean() ? 60 : 500);
        GuestFrames program = new GuestFrames(words);
        Model model = new Model(words);
        int more = random.nextInt(8);
        for (int i = 0; i < more; i++) {
            int parent = random.nextInt(model.types.size());
            int fields = random.nextInt(Math.min(4, 9 - model.types.get(parent).fields.length()));
            int refs = random.nextInt();
            CHECK.due("type", program.type(parent, fields, refs), model.type(parent, fields, refs));
        }
        // An object is used for at most 512 calls: a method takes up to 20 of them, and its runs 30.
        for (int i = 0; i < 9; i++) {
            int number = method(seed, random, program, model);
            int runs = number < 0 ? 0 : 1 + random.nextInt(5);
            for (int k = 0; k < runs; k++) run(seed, random, program, model);
        }
    }

    private static int method(int seed, Random random, GuestFrames program, Model model) {
        Writer writer = new Writer(random, model);
        writer.write();
        int[] code = writer.bytes();
        if (random.nextInt(4) == 0) code[random.nextInt(code.length)] = random.nextInt(200);
        for (int from = 0; from < code.length; from += 20) {
            int n = Math.min(20, code.length - from);
            int[] five = new int[5];
            for (int i = 0; i < n; i++) five[i / 4] |= (code[from + i] & 255) << 24 - 8 * (i % 4);
            CHECK.due("feed", program.feed(five[0], five[1], five[2], five[3], five[4], n), model.feed(five, n));
        }
        for (int[] handler : writer.handlers) {
            int want = model.handler(handler[0], handler[1], handler[2], handler[3]);
            CHECK.due("handler", program.handler(handler[0], handler[1], handler[2], handler[3]), want);
        }
        int stack = random.nextInt(8) == 0 ? random.nextInt(13) : 12;
        int got = program.method(writer.arguments, writer.locals.length, stack, writer.result);
        int want = model.method(writer.arguments, writer.locals.length, stack, writer.result);
        CHECK.due("seed " + seed + ": method", got, want);
        if (got != want) System.out.println(writer.told(code, stack));
        if (want >= 0) good++;
        else bad++;
        return Math.min(got, want);
    }

    private static void run(int seed, Random random, GuestFrames program, Model model) {
        int method = random.nextInt(model.codes.size());
        long a = random.nextInt(3) == 0 ? random.nextLong() : random.nextInt(40) - 5;
        long b = random.nextInt(3) == 0 ? random.nextLong() : random.nextInt(9) - 3;
        int fuel = random.nextInt(3) == 0 ? random.nextInt(30) : random.nextInt(2000);
        int want = model.run(method, a, b, fuel);
        String what = "seed " + seed + ": run of " + method;
        CHECK.due(what, program.run(method, a, b, fuel), want);
        CHECK.due(what + ", result", program.result(), model.result);
        CHECK.due(what + ", steps", program.steps(), model.steps);
        CHECK.due(what + ", words", program.count(3), model.latest);
        CHECK.due(what + ", most words", program.count(4), model.most);
        OUTCOMES[want]++;
        if (want == 1) THROWN[(int) model.result]++;
        largest = Math.max(largest, model.most);
    }

    /** Writes code that is mostly good: blocks that begin with an empty stack, ways among them, handlers behind them. */
    private static final class Writer {
        private static final String KINDS = "-IJR";
        final Random random;
        final Model model;
        final List<Integer> code = new ArrayList<>();
        final List<int[]> handlers = new ArrayList<>();
        // Places of blocks, and places of jumps with the number of the block to go to.
        final List<Integer> blocks = new ArrayList<>();
        final List<int[]> jumps = new ArrayList<>();
        String stack = "";
        int arguments;
        int argumentsThere;
        int result;
        char[] locals;

        Writer(Random random, Model model) {
            this.random = random;
            this.model = model;
        }

        int[] bytes() {
            return code.stream().mapToInt(b -> b).toArray();
        }

        String told(int[] bytes, int size) {
            StringBuilder text = new StringBuilder("arguments " + arguments + ", locals " + locals.length + ", stack " + size
                + ", result " + result + ", code " + Arrays.toString(bytes));
            for (int[] handler : handlers) text.append(", handler ").append(Arrays.toString(handler));
            return text.toString();
        }

        void write() {
            argumentsThere = random.nextInt(5);
            String kinds = "";
            for (int i = 0; i < argumentsThere; i++) {
                int kind = 1 + random.nextInt(3);
                arguments += kind << 2 * i;
                kinds += KINDS.charAt(kind);
            }
            result = random.nextInt(4);
            int more = random.nextInt(5);
            for (int i = 0; i < more; i++) kinds += "IRRJ".charAt(random.nextInt(4));
            locals = kinds.toCharArray();
            setLocals();
            int count = 1 + random.nextInt(5);
            for (int i = 0; i < count; i++) {
                blocks.add(code.size());
                block(count);
            }
            end();
            int catches = random.nextInt(4);
            for (int i = 0; i < catches; i++) catcher(count);
            patch();
        }

        private void add(String after, int... bytes) {
            for (int b : bytes) code.add(b & 255);
            stack = after;
        }

        private void setLocals() {
            for (int i = argumentsThere; i < locals.length; i++) {
                if (random.nextInt(9) == 0) continue;
                push(locals[i]);
                store(i);
            }
        }

        private void store(int local) {
            char kind = stack.charAt(stack.length() - 1);
            add(stack.substring(0, stack.length() - 1), kind == 'I' ? 54 : kind == 'J' ? 55 : 58, local);
        }

        private int local(char kind) {
            int from = locals.length == 0 ? 0 : random.nextInt(locals.length);
            for (int i = 0; i < locals.length; i++) {
                if (locals[(from + i) % locals.length] == kind) return (from + i) % locals.length;
            }
            return -1;
        }

        private void push(char kind) {
            int local = local(kind);
            if (local >= 0 && random.nextBoolean() && !(blocks.isEmpty() && local >= argumentsThere)) {
                add(stack + kind, kind == 'I' ? 21 : kind == 'J' ? 22 : 25, local);
            } else if (kind == 'I') {
                pushNumber();
            } else if (kind == 'J') {
                add(stack + 'J', 9 + random.nextInt(2));
            } else {
                pushReference();
            }
        }

        private void pushNumber() {
            int way = random.nextInt(8);
            if (way == 0) add(stack + 'I', 16, random.nextInt(256));
            else if (way == 1) add(stack + 'I', 17, random.nextInt(256), random.nextInt(256));
            else add(stack + 'I', 2 + random.nextInt(7));
        }

        private void pushReference() {
            int way = random.nextInt(8);
            if (way == 0) {
                add(stack + 'R', 1);
            } else if (way < 5) {
                add(stack + 'R', 187, random.nextInt(model.types.size()));
            } else {
                if (random.nextInt(4) == 0) add(stack, 16, random.nextInt(70) - 3);
                else add(stack, 3 + random.nextInt(6));
                if (way == 5) add(stack + 'R', 189);
                else add(stack + 'R', 188, new int[] {4, 5, 8, 9, 10, 11}[random.nextInt(6)]);
            }
        }

        private void block(int count) {
            int length = 1 + random.nextInt(6);
            for (int i = 0; i < length && code.size() < 130; i++) {
                if (stack.length() > 6) clear();
                something();
            }
            clear();
            if (random.nextInt(3) == 0) jump(count);
        }

        private void clear() {
            while (!stack.isEmpty()) {
                char top = stack.charAt(stack.length() - 1);
                int local = local(top);
                if (local >= 0 && random.nextInt(3) == 0) store(local);
                else add(stack.substring(0, stack.length() - 1), top == 'J' ? 88 : 87);
            }
        }

        private void jump(int count) {
            int target = random.nextInt(count);
            int op = random.nextInt(16);
            if (op < 6) push('I');
            else if (op < 12) pushAll("II");
            else if (op < 14) pushAll("RR");
            else push('R');
            jumps.add(new int[] {code.size(), target});
            add("", op < 14 ? 153 + op : 198 + op - 14, 0, 0);
        }

        private void pushAll(String kinds) {
            for (int i = 0; i < kinds.length(); i++) push(kinds.charAt(i));
        }

        private void apply(String takes, String leaves, int... bytes) {
            if (!stack.endsWith(takes)) pushAll(takes);
            add(stack.substring(0, stack.length() - takes.length()) + leaves, bytes);
        }

        private void something() {
            switch (random.nextInt(17)) {
                case 0: push('I'); break;
                case 1: push('J'); break;
                case 2: push('R'); break;
                case 3: apply("II", "I", new int[] {96, 100, 104, 108, 112, 120, 122, 124, 126, 128, 130}[random.nextInt(11)]); break;
                case 4: apply("JJ", "J", new int[] {97, 101, 105, 109, 113, 127, 129, 131}[random.nextInt(8)]); break;
                case 5: convert(); break;
                case 6: load(); break;
                case 7: storeElement(); break;
                case 8: field(); break;
                case 9: field(); break;
                case 10: call(); break;
                case 11: apply("R", "I", 193, random.nextInt(model.types.size())); break;
                case 12: if (random.nextInt(3) == 0) apply("R", "R", 192, random.nextInt(model.types.size())); break;
                case 13: shuffle(); break;
                case 14: apply("R", "I", 190); break;
                case 15: if (local('I') >= 0) add(stack, 132, local('I'), random.nextInt(256)); break;
                default: storeSomething(); break;
            }
        }

        private void convert() {
            switch (random.nextInt(6)) {
                case 0: apply("I", "J", 133); break;
                case 1: apply("J", "I", 136); break;
                case 2: apply("JJ", "I", 148); break;
                case 3: apply("JI", "J", new int[] {121, 123, 125}[random.nextInt(3)]); break;
                case 4: apply("J", "J", 117); break;
                default: apply("I", "I", new int[] {116, 145, 146, 147}[random.nextInt(4)]); break;
            }
        }

        private void load() {
            int[] ops = {46, 47, 50, 51, 52, 53};
            int op = ops[random.nextInt(6)];
            apply("RI", op == 47 ? "J" : op == 50 ? "R" : "I", op);
        }

        private void storeElement() {
            int[] sorts = {10, 11, 12, 4, 8, 5, 9};
            int[] ops = {79, 80, 83, 84, 84, 85, 86};
            int which = random.nextInt(7);
            // Mostly into an array of that sort, which stays on the stack.
            if (random.nextInt(4) != 0) {
                add(stack + 'I', 5 + random.nextInt(4));
                if (sorts[which] == 12) apply("I", "R", 189);
                else apply("I", "R", 188, sorts[which]);
                add(stack + 'R', 89);
                add(stack + 'I', 3 + random.nextInt(3));
                push(which == 1 ? 'J' : which == 2 ? 'R' : 'I');
            }
            apply(which == 1 ? "RIJ" : which == 2 ? "RIR" : "RII", "", ops[which]);
        }

        private void field() {
            int type = random.nextInt(model.types.size());
            String fields = model.types.get(type).fields;
            if (fields.isEmpty()) return;
            int field = random.nextInt(fields.length());
            char kind = fields.charAt(field);
            if (random.nextInt(3) != 0) add(stack + 'R', 187, type);
            if (random.nextBoolean()) {
                apply("R", "" + kind, 180, type, field);
                return;
            }
            if (stack.endsWith("R") && random.nextBoolean()) add(stack + 'R', 89);
            push(kind);
            apply("R" + kind, "", 181, type, field);
        }

        private void call() {
            int number = random.nextInt(model.codes.size() + 1);
            String takes = "";
            char end = KINDS.charAt(result);
            if (number < model.codes.size()) {
                takes = model.codes.get(number).arguments;
                end = model.codes.get(number).result;
            } else {
                for (int i = 0; i < argumentsThere; i++) takes += KINDS.charAt(arguments >> 2 * i & 3);
            }
            apply(takes, end == '-' ? "" : "" + end, 184, number);
        }

        private void shuffle() {
            if (stack.length() < 2 || stack.substring(stack.length() - 2).contains("J")) pushAll("RI");
            String last = stack.substring(stack.length() - 2);
            String rest = stack.substring(0, stack.length() - 2);
            if (random.nextBoolean()) add(rest + last.charAt(1) + last.charAt(0), 95);
            else add(rest + last + last.charAt(1), 89);
        }

        private void storeSomething() {
            if (locals.length == 0) return;
            int local = random.nextInt(locals.length);
            // Now and then a local gets another kind for a while.
            if (random.nextInt(12) == 0) locals[local] = "IJR".charAt(random.nextInt(3));
            push(locals[local]);
            store(local);
        }

        private void end() {
            if (random.nextInt(8) == 0) {
                push('R');
                add("", 191);
                return;
            }
            if (result != 0) push(KINDS.charAt(result));
            add("", new int[] {177, 172, 173, 176}[result]);
        }

        private void catcher(int count) {
            int first = random.nextInt(code.size());
            int to = first + 1 + random.nextInt(code.size() - first + 3);
            int at = code.size();
            if (at > 190 || to > 200) return;
            handlers.add(new int[] {first, to, at, random.nextInt(3) == 0 ? random.nextInt(model.types.size()) : 0});
            stack = "R";
            clear();
            if (random.nextBoolean()) {
                jumps.add(new int[] {code.size(), random.nextInt(count)});
                add("", 167, 0, 0);
            } else {
                end();
            }
        }

        private void patch() {
            for (int[] jump : jumps) {
                int by = blocks.get(jump[1]) - jump[0];
                code.set(jump[0] + 1, by >> 8 & 255);
                code.set(jump[0] + 2, by & 255);
            }
            while (code.size() > 200) code.remove(200);
        }
    }
}
