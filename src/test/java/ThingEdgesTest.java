/**
 * The edges of what instructions do with arrays and objects ('Terms', '2 INSTRUCTIONS' and '3 JUDGED, RUN'): each sentence
 * that names one stands, in its own words, above the test that would fail without it.
 */
public final class ThingEdgesTest {
    private static final int NO = 0, I = 1, J = 2, R = 3;
    private static final int LEAST = Integer.MIN_VALUE, MOST = Integer.MAX_VALUE;
    private static final long LEAST_J = Long.MIN_VALUE, MOST_J = Long.MAX_VALUE;
    private static final Check CHECK = new Check("ThingEdgesTest");

    public static void main(String[] args) {
        lowestBitsOfElements();
        fieldsOfObjects();
        placesOfArrays();
        sizesOfArrays();
        arraysOfOtherSorts();
        objectsOfOtherClasses();
        noneWhereOneIsNeeded();
        whatIsThrownIsAnObject();
        classesOfObjects();
        newThingsHoldNothing();
        CHECK.end();
    }

    private static void due(String what, String want, int arguments, int result, long a, long b, int... code) {
        CHECK.same(what, Guest.alone(arguments, 4, result, a, b, code), want);
    }

    /** "4 flags (one bit), 8 bytes (8 bits with a sign), 5 characters (16 without one), 9 shorts (16 with one)" */
    private static void lowestBitsOfElements() {
        int[][] rows = {{4, 0, 0}, {4, 1, 1}, {4, 2, 0}, {4, 3, 1}, {4, -1, 1}, {4, -2, 0}, {4, LEAST, 0}, {4, MOST, 1},
            {8, 127, 127}, {8, 128, -128}, {8, 255, -1}, {8, 256, 0}, {8, -128, -128}, {8, -129, 127}, {8, LEAST, 0}, {8, MOST, -1},
            {5, 65535, 65535}, {5, 65536, 0}, {5, -1, 65535}, {5, 32768, 32768}, {5, LEAST, 0}, {5, MOST, 65535},
            {9, 32767, 32767}, {9, 32768, -32768}, {9, 65535, -1}, {9, 65536, 0}, {9, -32769, 32767}, {9, LEAST, 0}, {9, MOST, -1},
            {10, LEAST, LEAST}, {10, MOST, MOST}};
        for (int[] row : rows) {
            // The neighbours, which may share its word, stay as they were.
            for (int place = 0; place < 9; place++) {
                int sort = row[0];
                Guest guest = new Guest(16);
                guest.method(Guest.kinds(I, I), 3, 3, I, Guest.join(new int[] {16, 9}, Sort.make(sort),
                    new int[] {58, 2, 25, 2, 16, place, 21, 0, Sort.store(sort), 25, 2, 21, 1, Sort.load(sort), 172}));
                for (int told = 0; told < 9; told++) {
                    CHECK.same("sort " + sort + " of " + row[1] + " at " + place + " has at " + told,
                        guest.outcome(0, row[1], told, 99), told == place ? "0 " + row[2] : "0 0");
                }
            }
        }
        for (long a : new long[] {LEAST_J, MOST_J, -1, LEAST, 1L << 31, 1L << 32, (1L << 32) - 1}) {
            due("sort 11 of " + a, "0 " + a, J, J, a, 0, 5, 188, 11, 58, 1, 25, 1, 4, 22, 0, 80, 25, 1, 4, 47, 173);
            due("its neighbour", "0 0", J, J, a, 0, 5, 188, 11, 58, 1, 25, 1, 4, 22, 0, 80, 25, 1, 3, 47, 173);
        }
    }

    /** "181 c k: R and a value stored in it", "FIELDS: the parent's first, then own ones, each I or R, at most 8" */
    private static void fieldsOfObjects() {
        for (int k = 0; k < 8; k++) {
            for (int told = 0; told < 8; told++) {
                for (int a : new int[] {LEAST, -1, MOST}) {
                    // Class 7 has three of them, 8 below it all.
                    Guest guest = new Guest(16);
                    guest.machine.type(0, 3, 0);
                    guest.machine.type(7, 5, 0);
                    CHECK.same("field " + told + " with " + a + " in " + k, guest.runs(I, 2, I, a, 0, 187, 8, 58, 1, 25, 1, 21, 0,
                        181, k < 3 ? 7 : 8, k, 25, 1, 180, told < 3 ? 7 : 8, told, 172), told == k ? "0 " + a : "0 0");
                }
                Guest guest = new Guest(16);
                guest.machine.type(0, 3, 7);
                guest.machine.type(7, 5, 31);
                CHECK.same("field " + told + " with an R in " + k, guest.runs(0, 2, R, 0, 0, 187, 8, 58, 1, 25, 1, 25, 1,
                    181, 8, k, 25, 1, 180, 8, told, 176), told == k ? "0 1" : "0 0");
            }
        }
    }

    /** "3: no such place of an array" */
    private static void placesOfArrays() {
        for (int sort : Sort.ALL) {
            int most = sort == 4 || sort == 8 ? 1592 : sort == 5 || sort == 9 ? 796 : sort == 11 ? 199 : 398;
            for (int length : new int[] {0, 1, 2, 3, 4, 5, 8, most - 1, most}) {
                Guest guest = new Guest(400);
                int[] first = Guest.join(new int[] {17, length >> 8, length & 255}, Sort.make(sort),
                    new int[] {58, 1, 25, 1, 21, 0});
                guest.method(I, 2, 3, NO, Guest.join(first, new int[] {Sort.load(sort), Sort.away(sort), 177}));
                guest.method(I, 2, 3, NO, Guest.join(first, new int[] {Sort.value(sort), Sort.store(sort), 177}));
                for (int place : new int[] {LEAST, -length, -1, 0, 1, length - 1, length, length + 1, length + 3, 65536, MOST}) {
                    boolean is = place >= 0 && place < length;
                    // Where the array fills the heap, there is no room for the exception.
                    String want = is ? "0 0" : Sort.wordsOf(sort, length) > 398 ? "3 0" : "1 3";
                    CHECK.same("a load of sort " + sort + " at " + place + " of " + length, guest.outcome(0, place, 0, 99), want);
                    CHECK.same("a store of sort " + sort + " at " + place + " of " + length, guest.outcome(1, place, 0, 99), want);
                }
            }
        }
    }

    /** "4: an array of a size below 0", and one of 0 */
    private static void sizesOfArrays() {
        for (int sort : Sort.ALL) {
            for (int size : new int[] {-1, -2, -4, -5, -128, -65536, LEAST + 1, LEAST}) {
                due("sort " + sort + " of " + size, "1 4", I, I, size, 0,
                    Guest.join(new int[] {21, 0}, Sort.make(sort), new int[] {190, 172}));
            }
            for (int size : new int[] {0, 1, 198}) {
                due("sort " + sort + " of " + size, "0 " + size, I, I, size, 0,
                    Guest.join(new int[] {21, 0}, Sort.make(sort), new int[] {190, 172}));
            }
            // Words of these, in 32 bits, would wrap around.
            for (int size : new int[] {MOST, MOST - 1, MOST - 2, MOST - 3, 1 << 30, (1 << 30) - 1, 1 << 29, 1599}) {
                String want = size > 1592 ? "3 0" : "0 " + size;
                due("sort " + sort + " of " + size, want, I, I, size, 0,
                    Guest.join(new int[] {21, 0}, Sort.make(sort), new int[] {190, 172}));
            }
        }
    }

    /** "5: it is not none, and no array of such a sort" */
    private static void arraysOfOtherSorts() {
        for (int has : Sort.ALL) {
            for (int used : Sort.ALL) {
                boolean fits = Sort.load(has) == Sort.load(used);
                int[] first = Guest.join(new int[] {5}, Sort.make(has), new int[] {4});
                due("a load of " + used + " from " + has, fits ? "0 0" : "1 5", 0, NO, 0, 0,
                    Guest.join(first, new int[] {Sort.load(used), Sort.away(used), 177}));
                due("a store of " + used + " to " + has, fits ? "0 0" : "1 5", 0, NO, 0, 0,
                    Guest.join(first, new int[] {Sort.value(used), Sort.store(used), 177}));
            }
            int[] object = {187, 0, 3};
            due("a load of " + has + " from an object", "1 5", 0, NO, 0, 0,
                Guest.join(object, new int[] {Sort.load(has), Sort.away(has), 177}));
            due("a store of " + has + " to an object", "1 5", 0, NO, 0, 0,
                Guest.join(object, new int[] {Sort.value(has), Sort.store(has), 177}));
        }
        due("the length of an object", "1 5", 0, I, 0, 0, 187, 6, 190, 172);
    }

    /** "or no object of that class", "(192: not of class c)" */
    private static void objectsOfOtherClasses() {
        // 7 below 0 with an I and an R, 8 below 7, 9 below 0 with the same fields, 10 below 8.
        for (int is = 0; is <= 10; is++) {
            for (int c : new int[] {7, 8, 9, 10}) {
                boolean of = is == c || c == 7 && (is == 8 || is == 10) || c == 8 && is == 10;
                String want = of ? "0 0" : "1 5";
                CHECK.same("180 of " + c + " with " + is, family().runs(0, 0, I, 0, 0, 187, is, 180, c, 0, 172), want);
                CHECK.same("180 of R of " + c + " with " + is, family().runs(0, 0, R, 0, 0, 187, is, 180, c, 1, 176), want);
                CHECK.same("181 of " + c + " with " + is, family().runs(0, 0, NO, 0, 0, 187, is, 8, 181, c, 0, 177), want);
                CHECK.same("181 of R of " + c + " with " + is, family().runs(0, 0, NO, 0, 0, 187, is, 1, 181, c, 1, 177), want);
                CHECK.same("192 of " + c + " with " + is, family().runs(0, 0, NO, 0, 0, 187, is, 192, c, 177), want);
            }
        }
        for (int sort : Sort.ALL) {
            int[] array = Guest.join(new int[] {5}, Sort.make(sort));
            CHECK.same("180 with sort " + sort, family().runs(0, 0, I, 0, 0, Guest.join(array, new int[] {180, 7, 0, 172})), "1 5");
            CHECK.same("181 with sort " + sort,
                family().runs(0, 0, NO, 0, 0, Guest.join(array, new int[] {8, 181, 7, 0, 177})), "1 5");
        }
    }

    private static Guest family() {
        Guest guest = new Guest(400);
        guest.machine.type(0, 2, 2);
        guest.machine.type(7, 0, 0);
        guest.machine.type(0, 2, 2);
        guest.machine.type(8, 1, 0);
        return guest;
    }

    /** "2: R is none where an array or object is needed (also to be thrown)" */
    private static void noneWhereOneIsNeeded() {
        for (int sort : Sort.ALL) {
            for (int place : new int[] {2, 3, 4}) {
                due("a load of " + sort + " from none", "1 2", 0, NO, 0, 0, 1, place, Sort.load(sort), Sort.away(sort), 177);
                due("a store of " + sort + " to none", "1 2", 0, NO, 0, 0, 1, place, Sort.value(sort), Sort.store(sort), 177);
            }
        }
        due("the length of none", "1 2", 0, I, 0, 0, 1, 190, 172);
        due("none thrown", "1 2", 0, NO, 0, 0, 1, 191);
        CHECK.same("a field of none", family().runs(0, 0, I, 0, 0, 1, 180, 10, 2, 172), "1 2");
        CHECK.same("a field of none stored", family().runs(0, 0, NO, 0, 0, 1, 3, 181, 10, 2, 177), "1 2");
        due("none stays", "0 0", 0, R, 0, 0, 1, 192, 6, 176);
        due("none is of no class", "0 0", 0, I, 0, 0, 1, 193, 0, 172);
        due("none stored in an array", "0 0", 0, NO, 0, 0, 4, 189, 3, 1, 83, 177);
    }

    /** "or (191) no object at all" */
    private static void whatIsThrownIsAnObject() {
        for (int sort : Sort.ALL) due("an array of sort " + sort + " thrown", "1 5", 0, NO, 0, 0, Guest.join(new int[] {3},
            Sort.make(sort), new int[] {191}));
        for (int type = 0; type <= 10; type++) {
            CHECK.same("an object of " + type + " thrown", family().runs(0, 0, NO, 0, 0, 187, type, 191), "1 " + type);
        }
    }

    /** "An object IS of its class and of those above that; an array of 0 alone." */
    private static void classesOfObjects() {
        int[] parents = {0, 0, 0, 0, 0, 0, 0, 0, 7, 0, 8};
        for (int is = 0; is <= 10; is++) {
            for (int c = 0; c <= 10; c++) {
                boolean of = c == 0 || is == c || parents[is] == c || parents[parents[is]] == c;
                CHECK.same(is + " is of " + c, family().runs(0, 0, I, 0, 0, 187, is, 193, c, 172), of ? "0 1" : "0 0");
                CHECK.same(is + " stays, if of " + c, family().runs(0, 0, R, 0, 0, 187, is, 192, c, 176), of ? "0 1" : "1 5");
            }
        }
        for (int sort : Sort.ALL) {
            for (int c = 0; c <= 10; c++) {
                int[] array = Guest.join(new int[] {3}, Sort.make(sort));
                CHECK.same("sort " + sort + " is of " + c, family().runs(0, 0, I, 0, 0, Guest.join(array, new int[] {193, c,
                    172})), c == 0 ? "0 1" : "0 0");
                CHECK.same("sort " + sort + " stays, if of " + c, family().runs(0, 0, R, 0, 0, Guest.join(array,
                    new int[] {192, c, 176})), c == 0 ? "0 1" : "1 5");
            }
        }
    }

    /** "187 c: a new object (fields 0, none)", "189: of R (0, none in all)", also where something else has been */
    private static void newThingsHoldNothing() {
        // Fills all with -1 and lets it go, then makes one of each sort over it and reads the last place.
        for (int sort : Sort.ALL) {
            Guest guest = new Guest(16);
            int length = sort == 4 || sort == 8 ? 52 : sort == 5 || sort == 9 ? 26 : sort == 11 ? 6 : 13;
            int[] dirty = {16, 14, 188, 10, 58, 1, 3, 54, 0, 25, 1, 21, 0, 2, 79, 132, 0, 1, 21, 0, 16, 14, 161, 255, 243, 1,
                58, 1};
            int[] code = Guest.join(dirty, new int[] {16, length}, Sort.make(sort), new int[] {16, length - 1, Sort.load(sort)});
            if (sort == 11) code = Guest.join(code, new int[] {136});
            if (sort == 12) CHECK.same("a new array of R", guest.runs(0, 2, R, 0, 0, Guest.join(code, new int[] {176})), "0 0");
            else CHECK.same("a new array of sort " + sort, guest.runs(0, 2, I, 0, 0, Guest.join(code, new int[] {172})), "0 0");
        }
        Guest guest = new Guest(16);
        guest.machine.type(0, 8, 0xF0);
        int[] dirty = {16, 14, 188, 10, 58, 1, 3, 54, 0, 25, 1, 21, 0, 2, 79, 132, 0, 1, 21, 0, 16, 14, 161, 255, 243, 1, 58, 1};
        for (int k = 0; k < 8; k++) {
            int[] code = Guest.join(dirty, new int[] {187, 7, 180, 7, k, k < 4 ? 172 : 176});
            CHECK.same("a new object's field " + k, guest.runs(0, 2, k < 4 ? I : R, 0, 0, code), "0 0");
        }
    }
}
