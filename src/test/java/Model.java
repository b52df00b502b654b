import java.util.ArrayDeque;
import java.util.ArrayList;
import java.util.Arrays;
import java.util.Collections;
import java.util.IdentityHashMap;
import java.util.List;
import java.util.Set;

/**
 * The document once more, with lists and objects of the Java library and no thought of speed: what ModelTest
 * compares the program with. Kinds are characters: I, J, R, and '-' for none.
 */
final class Model {
    /** A class: its parent (or null) and the kinds of all its fields. */
    static final class Type {
        final Type parent;
        final String fields;

        Type(Type parent, String fields) {
            this.parent = parent;
            this.fields = fields;
        }
    }

    /** An object (sort 0) or an array. */
    static final class Thing {
        final int sort;
        final Type type;
        final Object[] holds;

        Thing(int sort, Type type, Object[] holds) {
            this.sort = sort;
            this.type = type;
            this.holds = holds;
        }

        long words() {
            return 2 + wordsOf(sort, holds.length);
        }
    }

    static final class Code {
        String arguments;
        int locals;
        int stack;
        char result;
        int[] bytes;
        List<int[]> handlers;
    }

    private static final class Frame {
        final Code code;
        int place;
        final Object[] locals;
        ArrayList<Object> stack = new ArrayList<>();

        Frame(Code code) {
            this.code = code;
            locals = new Object[code.locals];
        }

        Object top(int below) {
            return stack.get(stack.size() - 1 - below);
        }

        int number(int below) {
            return (Integer) top(below);
        }

        long wide(int below) {
            return (Long) top(below);
        }

        Frame drop(int values) {
            for (int i = 0; i < values; i++) stack.remove(stack.size() - 1);
            return this;
        }

        void push(Object value) {
            stack.add(value);
        }

        int signed() {
            return (short) (code.bytes[place + 1] << 8 | code.bytes[place + 2]);
        }
    }

    /** A way that is not good. */
    private static final class Bad extends RuntimeException {
        private static final long serialVersionUID = 1;
    }

    private static final class NoRoom extends RuntimeException {
        private static final long serialVersionUID = 1;
    }

    private static final class Thrown extends RuntimeException {
        private static final long serialVersionUID = 1;
        final transient Thing thing;

        Thrown(Thing thing) {
            this.thing = thing;
        }
    }

    /** Stands for none on stacks and in locals, so that null is nothing at all. */
    private static final Object NONE = new Object();

    final int words;
    final List<Type> types = new ArrayList<>();
    final List<Code> codes = new ArrayList<>();
    final List<Integer> tape = new ArrayList<>();
    final List<int[]> handlers = new ArrayList<>();
    private final ArrayDeque<Frame> frames = new ArrayDeque<>();
    long result;
    int steps;
    long latest;
    long most;

    Model(int words) {
        this.words = Math.max(16, Math.min(400, words));
        types.add(new Type(null, ""));
        for (int i = 1; i <= 6; i++) types.add(new Type(types.get(0), ""));
    }

    static long wordsOf(int sort, long length) {
        if (sort == 4 || sort == 8) return (length + 3) / 4;
        if (sort == 5 || sort == 9) return (length + 1) / 2;
        return sort == 11 ? 2 * length : length;
    }

    int feed(int[] five, int n) {
        if (n < 1 || n > 20) throw new IllegalArgumentException();
        if (200 - tape.size() < n) throw new UnsupportedOperationException();
        for (int i = 0; i < n; i++) tape.add(five[i / 4] >>> 8 * (3 - i % 4) & 255);
        return tape.size();
    }

    int handler(int from, int to, int at, int type) {
        boolean placed = 0 <= from && from < to && to <= 200 && 0 <= at && at <= 200;
        if (!placed || type < 0 || type >= types.size()) throw new IllegalArgumentException();
        if (handlers.size() == 8) throw new UnsupportedOperationException();
        handlers.add(new int[] {from, to, at, type});
        return handlers.size();
    }

    long count(int what) {
        if (what < 0 || what > 4) throw new IndexOutOfBoundsException();
        return new long[] {types.size(), codes.size(), tape.size(), latest, most}[what];
    }

    int type(int parent, int fields, int refs) {
        if (parent < 0 || parent >= types.size()) throw new IndexOutOfBoundsException();
        if (fields < 0 || (long) fields + types.get(parent).fields.length() > 8) throw new IllegalArgumentException();
        if (types.size() == 30) throw new UnsupportedOperationException();
        StringBuilder kinds = new StringBuilder(types.get(parent).fields);
        for (int i = 0; i < fields; i++) kinds.append((refs >> i & 1) == 1 ? 'R' : 'I');
        types.add(new Type(types.get(parent), kinds.toString()));
        return types.size() - 1;
    }

    int method(int arguments, int locals, int stack, int result) {
        if (arguments < 0 || arguments > 255) throw new IllegalArgumentException();
        Code code = new Code();
        code.arguments = "";
        for (int rest = arguments; rest % 4 != 0; rest /= 4) code.arguments += "-IJR".charAt(rest % 4);
        if (locals < code.arguments.length() || locals > 16 || stack < 0 || stack > 12) throw new IllegalArgumentException();
        if (result < 0 || result > 3) throw new IllegalArgumentException();
        if (codes.size() == 20) throw new UnsupportedOperationException();
        code.locals = locals;
        code.stack = stack;
        code.result = "-IJR".charAt(result);
        code.bytes = tape.stream().mapToInt(b -> b & 255).toArray();
        code.handlers = new ArrayList<>(handlers);
        tape.clear();
        handlers.clear();
        try {
            if (code.bytes.length == 0) throw new Bad();
            judge(code);
        } catch (Bad bad) {
            return -1;
        }
        codes.add(code);
        return codes.size() - 1;
    }

    // ---- the judge: states are texts "locals stack", made anew until none changes

    private void judge(Code code) {
        String[] locals = new String[code.bytes.length];
        String[] stacks = new String[code.bytes.length];
        locals[0] = (code.arguments + "-".repeat(16)).substring(0, code.locals);
        stacks[0] = "";
        boolean changed = true;
        while (changed) {
            changed = false;
            for (int place = 0; place < locals.length; place++) {
                if (locals[place] == null) continue;
                for (String[] way : waysFrom(code, place, locals[place], stacks[place])) {
                    changed |= meet(code, locals, stacks, way);
                }
            }
        }
    }

    private static boolean meet(Code code, String[] locals, String[] stacks, String[] way) {
        int to = Integer.parseInt(way[0]);
        if (to < 0 || to >= locals.length || way[2].length() > code.stack) throw new Bad();
        if (locals[to] == null) {
            locals[to] = way[1];
            stacks[to] = way[2];
            return true;
        }
        if (!stacks[to].equals(way[2])) throw new Bad();
        StringBuilder both = new StringBuilder();
        for (int i = 0; i < way[1].length(); i++) {
            both.append(way[1].charAt(i) == locals[to].charAt(i) ? way[1].charAt(i) : '-');
        }
        boolean changed = !locals[to].contentEquals(both);
        locals[to] = both.toString();
        return changed;
    }

    private List<String[]> waysFrom(Code code, int place, String locals, String stack) {
        List<String[]> ways = new ArrayList<>();
        for (int[] handler : code.handlers) {
            if (handler[0] <= place && place < handler[1]) ways.add(new String[] {"" + handler[2], locals, "R"});
        }
        int op = code.bytes[place];
        int length = lengthOf(op);
        if (length == 0 || place + length > code.bytes.length) throw new Bad();
        int first = length > 1 ? code.bytes[place + 1] : 0;
        int second = length > 2 ? code.bytes[place + 2] : 0;
        String effect = effectOf(code, op, first, second, stack);
        String takes = effect.substring(0, effect.indexOf('>'));
        if (!stack.endsWith(takes)) throw new Bad();
        String after = stack.substring(0, stack.length() - takes.length()) + effect.substring(effect.indexOf('>') + 1);
        if (after.length() > code.stack) throw new Bad();
        String then = localsAfter(op, first, locals);
        boolean jumps = op >= 153 && op <= 167 || op >= 198;
        if (jumps) ways.add(new String[] {"" + (place + (short) (first << 8 | second)), then, after});
        boolean ends = op == 167 || op >= 172 && op <= 177 || op == 191;
        if (!ends) ways.add(new String[] {"" + (place + length), then, after});
        return ways;
    }

    private static int lengthOf(int op) {
        if (op >= 153 && op <= 167 || op == 198 || op == 199 || op == 17 || op == 132 || op == 180 || op == 181) return 3;
        int[] two = {16, 21, 22, 25, 54, 55, 58, 184, 187, 188, 192, 193};
        if (Arrays.stream(two).anyMatch(o -> o == op)) return 2;
        String one = " 0 1 2 3 4 5 6 7 8 9 10 46 47 50 51 52 53 79 80 83 84 85 86 87 88 89 95 96 97 100 101 104 105 108 109"
            + " 112 113 116 117 120 121 122 123 124 125 126 127 128 129 130 131 133 136 145 146 147 148 172 173 176 177 189"
            + " 190 191 ";
        return one.contains(" " + op + " ") ? 1 : 0;
    }

    private static String localsAfter(int op, int n, String locals) {
        if (op != 21 && op != 22 && op != 25 && op != 54 && op != 55 && op != 58 && op != 132) return locals;
        if (n >= locals.length()) throw new Bad();
        char wanted = op == 21 || op == 54 || op == 132 ? 'I' : op == 22 || op == 55 ? 'J' : 'R';
        boolean stores = op == 54 || op == 55 || op == 58;
        if (!stores && locals.charAt(n) != wanted) throw new Bad();
        return locals.substring(0, n) + wanted + locals.substring(n + 1);
    }

    /** What is taken and what comes, as "RI>J". */
    private String effectOf(Code code, int op, int first, int second, String stack) {
        switch (op) {
            case 0: case 132: case 167: return ">";
            case 1: case 25: return ">R";
            case 2: case 3: case 4: case 5: case 6: case 7: case 8: case 16: case 17: case 21: return ">I";
            case 9: case 10: case 22: return ">J";
            case 54: return "I>";
            case 55: case 88: return "J>";
            case 58: return "R>";
            case 46: case 51: case 52: case 53: return "RI>I";
            case 47: return "RI>J";
            case 50: return "RI>R";
            case 79: case 84: case 85: case 86: return "RII>";
            case 80: return "RIJ>";
            case 83: return "RIR>";
            case 87: return narrow(stack, 0) + ">";
            case 89: return narrow(stack, 0) + ">" + narrow(stack, 0) + narrow(stack, 0);
            case 95: return narrow(stack, 1) + narrow(stack, 0) + ">" + narrow(stack, 0) + narrow(stack, 1);
            case 116: case 145: case 146: case 147: return "I>I";
            case 117: return "J>J";
            case 121: case 123: case 125: return "JI>J";
            case 133: return "I>J";
            case 136: return "J>I";
            case 148: return "JJ>I";
            case 165: case 166: return "RR>";
            case 191: case 198: case 199: return "R>";
            case 172: return end(code, "I");
            case 173: return end(code, "J");
            case 176: return end(code, "R");
            case 177: return end(code, "-").substring(1);
            case 180: return "R>" + fieldKind(first, second);
            case 181: return "R" + fieldKind(first, second) + ">";
            case 184: return callEffect(code, first);
            case 187: return knownType(first, ">R");
            case 188: return first == 4 || first == 5 || first >= 8 && first <= 11 ? "I>R" : fail();
            case 189: return "I>R";
            case 190: return "R>I";
            case 192: return knownType(first, "R>R");
            case 193: return knownType(first, "R>I");
            default: break;
        }
        if (op >= 96 && op <= 131) return op % 2 == 0 ? "II>I" : "JJ>J";
        return op <= 158 ? "I>" : "II>";
    }

    private static String fail() {
        throw new Bad();
    }

    private static String narrow(String stack, int below) {
        int place = stack.length() - 1 - below;
        return place >= 0 && stack.charAt(place) != 'J' ? stack.substring(place, place + 1) : fail();
    }

    private static String end(Code code, String kind) {
        return kind.charAt(0) == code.result ? kind + ">" : fail();
    }

    private char fieldKind(int type, int field) {
        if (type >= types.size() || field >= types.get(type).fields.length()) throw new Bad();
        return types.get(type).fields.charAt(field);
    }

    private String knownType(int type, String effect) {
        return type < types.size() ? effect : fail();
    }

    private String callEffect(Code code, int number) {
        if (number > codes.size()) throw new Bad();
        Code called = number == codes.size() ? code : codes.get(number);
        return called.arguments + ">" + (called.result == '-' ? "" : called.result);
    }

    // ---- runs

    int run(int method, long a, long b, int fuel) {
        if (method < 0 || method >= codes.size()) throw new IndexOutOfBoundsException();
        if (fuel < 0 || fuel > 20000) throw new IllegalArgumentException();
        frames.clear();
        result = 0;
        steps = 0;
        latest = 0;
        most = 0;
        Frame frame = new Frame(codes.get(method));
        long[] both = {a, b};
        int turn = 0;
        for (int i = 0; i < frame.code.arguments.length(); i++) {
            char kind = frame.code.arguments.charAt(i);
            if (kind == 'R') frame.locals[i] = NONE;
            if (kind == 'I') frame.locals[i] = (int) both[turn++ % 2];
            if (kind == 'J') frame.locals[i] = both[turn++ % 2];
        }
        frames.push(frame);
        try {
            while (steps < fuel) {
                steps++;
                try {
                    step(frames.peek());
                } catch (Thrown thrown) {
                    unwind(thrown.thing);
                    if (frames.isEmpty()) {
                        result = types.indexOf(thrown.thing.type);
                        return 1;
                    }
                }
                if (frames.isEmpty()) return 0;
            }
        } catch (NoRoom noRoom) {
            return 3;
        }
        return 2;
    }

    private void unwind(Thing thing) {
        while (!frames.isEmpty()) {
            Frame frame = frames.peek();
            for (int[] handler : frame.code.handlers) {
                if (handler[0] <= frame.place && frame.place < handler[1] && isOf(thing, handler[3])) {
                    frame.place = handler[2];
                    frame.stack.clear();
                    frame.push(thing);
                    return;
                }
            }
            frames.pop();
        }
    }

    private boolean isOf(Thing thing, int type) {
        if (thing.sort != 0) return type == 0;
        for (Type is = thing.type; is != null; is = is.parent) {
            if (is == types.get(type)) return true;
        }
        return false;
    }

    private Thing make(int sort, Type type, long length) {
        Set<Thing> reachable = Collections.newSetFromMap(new IdentityHashMap<>());
        for (Frame frame : frames) {
            for (Object local : frame.locals) reach(local, reachable);
            for (Object value : frame.stack) reach(value, reachable);
        }
        long sum = 2 + wordsOf(sort, length);
        for (Thing thing : reachable) sum += thing.words();
        if (sum > words) throw new NoRoom();
        latest = sum;
        most = Math.max(most, sum);
        Object[] holds = new Object[(int) length];
        for (int i = 0; i < holds.length; i++) {
            boolean reference = sort == 0 ? type.fields.charAt(i) == 'R' : sort == 12;
            holds[i] = reference ? NONE : sort == 11 ? (Object) 0L : (Object) 0;
        }
        return new Thing(sort, type, holds);
    }

    private static void reach(Object value, Set<Thing> reachable) {
        if (!(value instanceof Thing) || !reachable.add((Thing) value)) return;
        for (Object held : ((Thing) value).holds) reach(held, reachable);
    }

    private Thrown exception(int type) {
        return new Thrown(make(0, types.get(type), 0));
    }

    private Thing needed(Object value) {
        if (value == NONE) throw exception(2);
        return (Thing) value;
    }

    private Thing arrayFor(Object value, int index, int... sorts) {
        Thing thing = needed(value);
        if (Arrays.stream(sorts).noneMatch(s -> s == thing.sort)) throw exception(5);
        if (index < 0 || index >= thing.holds.length) throw exception(3);
        return thing;
    }

    private Thing objectOf(Object value, int type) {
        Thing thing = needed(value);
        if (!isOf(thing, type)) throw exception(5);
        return thing;
    }

    private void step(Frame f) {
        int op = f.code.bytes[f.place];
        int length = lengthOf(op);
        int first = length > 1 ? f.code.bytes[f.place + 1] : 0;
        int second = length > 2 ? f.code.bytes[f.place + 2] : 0;
        int next = f.place + length;
        if (op >= 153 && op <= 167 || op >= 198) {
            if (goes(f, op)) next = f.place + f.signed();
            f.drop(op == 167 ? 0 : op >= 159 && op <= 166 ? 2 : 1);
        } else if (op >= 172 && op <= 177) {
            end(f, op);
            return;
        } else if (op == 184) {
            call(f, first);
            return;
        } else if (op >= 46 && op <= 53 || op >= 79 && op <= 86) {
            element(f, op);
        } else if (op >= 180) {
            heapUse(f, op, first, second);
        } else if (op >= 96 && op <= 131) {
            reckon(f, op);
        } else {
            move(f, op, first, second);
        }
        f.place = next;
    }

    private static boolean goes(Frame f, int op) {
        if (op == 167) return true;
        if (op >= 198) return f.top(0) == NONE == (op == 198);
        if (op >= 165) return f.top(0) == f.top(1) == (op == 165);
        int left = op < 159 ? f.number(0) : f.number(1);
        int right = op < 159 ? 0 : f.number(0);
        switch ((op - 153) % 6) {
            case 0: return left == right;
            case 1: return left != right;
            case 2: return left < right;
            case 3: return left >= right;
            case 4: return left > right;
            default: return left <= right;
        }
    }

    private void end(Frame f, int op) {
        Object value = op == 177 ? null : f.top(0);
        frames.pop();
        if (frames.isEmpty()) {
            if (value instanceof Integer) result = (Integer) value;
            else if (value instanceof Long) result = (Long) value;
            else if (value instanceof Thing) result = 1;
            return;
        }
        if (value != null) frames.peek().push(value);
        frames.peek().place += 2;
    }

    private void call(Frame f, int number) {
        if (frames.size() == 16) throw exception(6);
        Frame called = new Frame(codes.get(number));
        int arguments = called.code.arguments.length();
        for (int i = 0; i < arguments; i++) called.locals[i] = f.top(arguments - 1 - i);
        f.drop(arguments);
        frames.push(called);
    }

    private void element(Frame f, int op) {
        int[][] sorts = {{10}, {11}, {}, {}, {12}, {4, 8}, {5}, {9}};
        if (op < 79) {
            Thing array = arrayFor(f.top(1), f.number(0), sorts[op - 46]);
            Object value = array.holds[f.number(0)];
            f.drop(2).push(value);
            return;
        }
        Thing array = arrayFor(f.top(2), f.number(1), sorts[op - 79]);
        Object value = f.top(0);
        if (array.sort == 4) value = (Integer) value & 1;
        if (array.sort == 8) value = (int) (byte) (int) (Integer) value;
        if (array.sort == 5) value = (int) (char) (int) (Integer) value;
        if (array.sort == 9) value = (int) (short) (int) (Integer) value;
        array.holds[f.number(1)] = value;
        f.drop(3);
    }

    private void heapUse(Frame f, int op, int first, int second) {
        switch (op) {
            case 180: {
                Object value = objectOf(f.top(0), first).holds[second];
                f.drop(1).push(value);
                break;
            }
            case 181:
                objectOf(f.top(1), first).holds[second] = f.top(0);
                f.drop(2);
                break;
            case 187: f.push(make(0, types.get(first), types.get(first).fields.length())); break;
            case 188: case 189: {
                if (f.number(0) < 0) throw exception(4);
                Thing made = make(op == 189 ? 12 : first, null, f.number(0));
                f.drop(1).push(made);
                break;
            }
            case 190: {
                Thing array = needed(f.top(0));
                if (array.sort == 0) throw exception(5);
                f.drop(1).push(array.holds.length);
                break;
            }
            case 191: {
                Thing thing = needed(f.top(0));
                throw thing.sort == 0 ? new Thrown(thing) : exception(5);
            }
            case 192:
                if (f.top(0) != NONE && !isOf((Thing) f.top(0), first)) throw exception(5);
                break;
            default: {
                boolean is = f.top(0) != NONE && isOf((Thing) f.top(0), first);
                f.drop(1).push(is ? 1 : 0);
                break;
            }
        }
    }

    private void reckon(Frame f, int op) {
        if (op == 116) {
            int value = f.number(0);
            f.drop(1).push(-value);
        } else if (op == 117) {
            long value = f.wide(0);
            f.drop(1).push(-value);
        } else if (op % 2 == 0) {
            int value = narrow(op, f.number(1), f.number(0));
            f.drop(2).push(value);
        } else if (op == 121 || op == 123 || op == 125) {
            long value = f.wide(1);
            int by = f.number(0);
            f.drop(2).push(op == 121 ? value << by : op == 123 ? value >> by : value >>> by);
        } else {
            long value = wide(op, f.wide(1), f.wide(0));
            f.drop(2).push(value);
        }
    }

    private int narrow(int op, int a, int b) {
        if ((op == 108 || op == 112) && b == 0) throw exception(1);
        switch (op) {
            case 96: return a + b;
            case 100: return a - b;
            case 104: return a * b;
            case 108: return a / b;
            case 112: return a % b;
            case 120: return a << b;
            case 122: return a >> b;
            case 124: return a >>> b;
            case 126: return a & b;
            case 128: return a | b;
            default: return a ^ b;
        }
    }

    private long wide(int op, long a, long b) {
        if ((op == 109 || op == 113) && b == 0) throw exception(1);
        switch (op) {
            case 97: return a + b;
            case 101: return a - b;
            case 105: return a * b;
            case 109: return a / b;
            case 113: return a % b;
            case 127: return a & b;
            case 129: return a | b;
            default: return a ^ b;
        }
    }

    private static void move(Frame f, int op, int first, int second) {
        switch (op) {
            case 0: break;
            case 1: f.push(NONE); break;
            case 9: f.push(0L); break;
            case 10: f.push(1L); break;
            case 16: f.push((int) (byte) first); break;
            case 17: f.push(f.signed()); break;
            case 21: case 22: case 25: f.push(f.locals[first]); break;
            case 54: case 55: case 58:
                f.locals[first] = f.top(0);
                f.drop(1);
                break;
            case 87: case 88: f.drop(1); break;
            case 89: f.push(f.top(0)); break;
            case 95: Collections.swap(f.stack, f.stack.size() - 1, f.stack.size() - 2); break;
            case 132: f.locals[first] = (Integer) f.locals[first] + (byte) second; break;
            default:
                if (op <= 8) f.push(op - 3);
                else convert(f, op);
                break;
        }
    }

    private static void convert(Frame f, int op) {
        if (op == 148) {
            int order = Long.compare(f.wide(1), f.wide(0));
            f.drop(2).push(order);
        } else if (op == 136) {
            long value = f.wide(0);
            f.drop(1).push((int) value);
        } else {
            int value = f.number(0);
            f.drop(1);
            if (op == 133) f.push((long) value);
            else f.push(op == 145 ? (byte) value : op == 146 ? (int) (char) value : (int) (short) value);
        }
    }
}
