import java.util.Random;

/** Runs of random calls, many of them just within or beyond an edge, on the program and on the model: the same answers. */
public final class CallsModelTest {
    private static final Check CHECK = new Check("CallsModelTest");
    private static final int[][] CODES = {{177}, {8, 172}, {21, 0, 172}, {10, 173}, {22, 0, 173}, {1, 191}, {187, 6, 176},
        {187, 29, 191},
        {187, 8, 180, 8, 1, 172}, {187, 8, 180, 8, 1, 176}, {21, 0, 188, 10, 190, 172}, {21, 0, 189, 176}, {184, 0, 177},
        {184, 19, 177}, {21, 0, 184, 2, 172}, {167, 0, 0}, {187, 0, 167, 255, 254}, {187, 0, 58, 1, 177}, {255}, {172}, {0}, {16}};
    private static final int[] OUTCOMES = new int[4];
    private static int answered;
    private static int thrown;
    private static final int[] LARGEST = new int[4];

    public static void main(String[] args) {
        int machines = args.length > 0 ? Integer.parseInt(args[0]) : 1500;
        int first = args.length > 1 ? Integer.parseInt(args[1]) : 0;
        for (int seed = first; seed < first + machines; seed++) new Pair(seed).use();
        System.out.println("CallsModelTest: " + answered + " calls answered, " + thrown + " threw; outcomes " + OUTCOMES[0] + ", "
            + OUTCOMES[1] + ", " + OUTCOMES[2] + ", " + OUTCOMES[3]);
        CHECK.holds("calls of both sorts came", answered > 50 * machines && thrown > 20 * machines);
        for (int outcome = 0; outcome < 4; outcome++) CHECK.holds("outcome " + outcome + " came",
            OUTCOMES[outcome] > machines / 10);
        CHECK.due("most classes", LARGEST[0], 30);
        CHECK.due("most methods", LARGEST[1], 20);
        CHECK.due("most bytes", LARGEST[2], 200);
        CHECK.due("most handlers", LARGEST[3], 8);
        CHECK.end();
    }

    /** The program and the model, given the same calls. */
    private static final class Pair {
        private final int seed;
        private final Random random;
        private final GuestFrames program;
        private final Model model;
        private int calls;

        Pair(int seed) {
            this.seed = seed;
            random = new Random(seed * 0x9E3779B97F4A7C15L);
            int words = near(16, 17, 40, 400);
            program = new GuestFrames(words);
            model = new Model(words);
        }

        void use() {
            // Some machines get more of one call than of others, so that each limit is come to.
            int favourite = random.nextInt(8);
            // An object is used for at most 512 calls.
            while (calls < 490) {
                call(random.nextInt(3) == 0 ? favourite : random.nextInt(8));
                if (random.nextInt(4) == 0) compareAll();
            }
            compareAll();
        }

        /** One of these, or a number close to one, or any number. */
        private int near(int... numbers) {
            int way = random.nextInt(12);
            if (way == 0) return new int[] {Integer.MIN_VALUE, Integer.MAX_VALUE, random.nextInt(),
                -random.nextInt(300)}[random.nextInt(4)];
            int number = numbers[random.nextInt(numbers.length)];
            return way < 3 ? number + random.nextInt(3) - 1 : number;
        }

        private void same(String what, String got, String want) {
            calls++;
            CHECK.same("seed " + seed + ", call " + calls + ", " + what, got, want);
            if (want.startsWith("throws.")) thrown++;
            else answered++;
        }

        private void compareAll() {
            same("result", "" + program.result(), "" + model.result);
            same("steps", "" + program.steps(), "" + model.steps);
            for (int what = 0; what <= 4; what++) {
                same("count " + what, "" + program.count(what), "" + model.count(what));
                if (what < 3) LARGEST[what] = Math.max(LARGEST[what], program.count(what));
            }
            LARGEST[3] = Math.max(LARGEST[3], model.handlers.size());
        }

        private void call(int which) {
            switch (which) {
                case 0: feed(); break;
                case 1: type(); break;
                case 2: handler(); break;
                case 3: method(); break;
                case 4: case 7: run(); break;
                case 5: count(); break;
                default: someMethod(); break;
            }
        }

        private void feed() {
            feed(new int[] {random.nextInt(), random.nextInt(), 0, 177, -1}, near(1, 2, 19, 20, random.nextInt(20)));
        }

        private void feed(int[] five, int n) {
            same("feed of " + n, Guest.answer(() -> program.feed(five[0], five[1], five[2], five[3], five[4], n)),
                Guest.answer(() -> model.feed(five, n)));
        }

        private void type() {
            int parent = near(0, 6, model.types.size() - 1, 8);
            int fields = near(0, 0, 1, 2, 8);
            int refs = random.nextInt();
            same("type " + parent + ", " + fields + ", " + refs, Guest.answer(() -> program.type(parent, fields, refs)),
                Guest.answer(() -> model.type(parent, fields, refs)));
        }

        private void handler() {
            int from = near(0, 1, 2, 199);
            int to = near(from + 1, from + 2, 200);
            int at = near(0, 1, 2, 200);
            int type = near(0, 2, 6, model.types.size() - 1);
            same("handler " + from + ", " + to + ", " + at + ", " + type, Guest.answer(() -> program.handler(from, to, at, type)),
                Guest.answer(() -> model.handler(from, to, at, type)));
        }

        private void method() {
            method(near(0, 1, 2, 3, 5, 27, 192, 255), near(0, 1, 2, 4, 16), near(0, 1, 2, 12), near(0, 1, 2, 3));
        }

        private void method(int arguments, int locals, int stack, int result) {
            same("method " + arguments + ", " + locals + ", " + stack + ", " + result,
                Guest.answer(() -> program.method(arguments, locals, stack, result)),
                Guest.answer(() -> model.method(arguments, locals, stack, result)));
        }

        /** A method that is likely to be good, if the tape was empty. */
        private void someMethod() {
            int[] code = CODES[random.nextInt(CODES.length)];
            int[] five = new int[5];
            for (int i = 0; i < code.length; i++) five[i / 4] |= code[i] << 24 - 8 * (i % 4);
            if (!model.tape.isEmpty() && random.nextInt(3) != 0) method();
            feed(five, code.length);
            int end = code[code.length - 1];
            int result = end == 172 ? 1 : end == 173 ? 2 : end == 176 ? 3 : 0;
            method(code[0] == 22 ? 2 : 1, near(2, 16), near(2, 12), result);
        }

        private void run() {
            int method = near(0, Math.max(0, model.codes.size() - 1), random.nextInt(20));
            long a = near(0, 1, 5, 14, 38, 398);
            long b = random.nextLong();
            int fuel = near(0, 1, 2, 3, 50, 1000, random.nextInt(100) == 0 ? 20000 : 20001);
            String want = Guest.answer(() -> model.run(method, a, b, fuel));
            same("run of " + method + " with " + a + ", " + fuel, Guest.answer(() -> program.run(method, a, b, fuel)), want);
            if (!want.startsWith("throws.")) OUTCOMES[Integer.parseInt(want)]++;
        }

        private void count() {
            int what = near(0, 1, 2, 3, 4);
            same("count " + what, Guest.answer(() -> program.count(what)), Guest.answer(() -> model.count(what)));
        }
    }
}
