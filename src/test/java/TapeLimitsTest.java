/** The limits and refusals of promises 24 to 34, and of the third part of the terms, one by one. */
public final class TapeLimitsTest {
    private static final int NONE = -1, BAD = -2, STATE = -3;
    private static final int NOTHING = -11, CAST = -12, PLACE = -13, SIZE = -14;
    private static final int BYTES = 0, SHORTS = 1, INTS = 2, LONGS = 3, BOOLEANS = 4;
    private static final int MIN = Integer.MIN_VALUE, MAX = Integer.MAX_VALUE;
    private static final long NO = WoundEggs.NO;

    public static void main(String[] args) {
        judge();
        judgeSorts();
        judgeWithoutEggs();
        judgeOfSix();
        judgeFirst();
        judgeLongs();
        image();
        imageKeepsEach();
        imageWithoutStore();
        laterImages();
        undoneEggs();
        actOfNone();
        actsWrap();
        mostBodies();
        traceOfLatest();
        taken();
        count();
        countsAtMost();
        tape();
        tapeAnswersTheFirstNamed();
        tapeBecomes();
        item();
        itemAnswersTheFirstNamed();
        lowestBits();
        booleans();
        read();
        shiftTapes();
        shiftAnswersTheFirstNamed();
        shiftPlaces();
        shiftFar();
        shiftNone();
        shiftAsTheyWere();
        Due.end();
    }

    /** So many EGGS, all of KIND 0, v 0, PERIOD 1, SETTING 0. */
    private static WoundEggs eggs(int many) {
        WoundEggs x = new WoundEggs();
        for (int e = 0; e < many; e++) {
            Due.is("egg " + e, x.egg(0, 0, 1, 0), e);
        }
        return x;
    }

    /** A TAPE 0 of a sort, n items long. */
    private static WoundEggs tapeOf(int sort, int n) {
        WoundEggs x = new WoundEggs();
        Due.is("a TAPE", x.tape(0, sort, n), 1);
        return x;
    }

    // ---- promise 24

    private static void judge() {
        WoundEggs x = eggs(2);
        Due.edges("judge, NONE: tape", NONE, tape -> x.judge(tape, 0), 0, 5);
        Due.refuses("a TAPE that holds nothing", 100, tape -> x.judge(tape, 0), 0, 1, 2, 3, 4, 5);
        Due.is("nothing held, no such place", x.judge(0, MIN), 100);
        Due.is("tape ahead of the place", x.judge(6, -1), NONE);
        x.tape(0, LONGS, 4);
        Due.refuses("as it is", -5, i -> x.judge(0, i), 0, 1, 2);
        Due.is("one was looked at", x.judge(0, 3), 101);
        Due.refuses("none was looked at", 100, i -> x.judge(0, i), 4, 5, 59, 60, 61, MAX - 1, MAX);
        Due.refuses("the place is below 0", 100, i -> x.judge(0, i), -1, -2, -100, MIN + 1, MIN);
        x.tape(0, LONGS, 0);
        Due.refuses("a row of no items", 100, i -> x.judge(0, i), -1, 0, 1);
        x.tape(0, -1, 0);
        Due.refuses("nothing again", 100, i -> x.judge(0, i), -1, 0, 1);
    }

    private static void judgeSorts() {
        for (int sort = BYTES; sort <= BOOLEANS; sort++) {
            for (int many = 0; many <= 2; many++) {
                for (int n = 0; n <= 2; n++) {
                    WoundEggs x = eggs(many);
                    x.tape(0, sort, n);
                    int due = sort != LONGS ? CAST : many <= n ? -5 : 100 + n;
                    String of = "judge, sort " + sort + ", " + n + " items, " + many + " EGGS";
                    Due.is(of, x.judge(0, 0), due);
                    if (sort != LONGS) {
                        Due.is(of + ", below 0", x.judge(0, -1), CAST);
                        Due.is(of + ", no such place", x.judge(0, 99), CAST);
                    }
                }
            }
        }
    }

    private static void judgeWithoutEggs() {
        WoundEggs x = new WoundEggs();
        x.tape(0, LONGS, 2);
        x.tape(1, LONGS, 0);
        x.item(0, 0, 7);
        for (int i : new int[] {0, 1, 2, 3, -1, MIN, MAX}) {
            Due.is("there are no EGGS", x.judge(0, i), -5);
            Due.is("there are no EGGS, no items", x.judge(1, i), -5);
            Due.is("there are no EGGS, nothing held", x.judge(2, i), -5);
        }
    }

    private static void judgeOfSix() {
        WoundEggs x = eggs(6);
        x.tape(5, LONGS, 60);
        Due.refuses("all six are looked at", -5, i -> x.judge(5, i), 0, 1, 53, 54);
        for (int i = 55; i <= 60; i++) {
            Due.is("the row ends ahead of that", x.judge(5, i), 160 - i);
        }
        for (int n = 0; n <= 5; n++) {
            x.tape(5, LONGS, n);
            Due.is("a row of " + n, x.judge(5, 0), 100 + n);
        }
        x.tape(5, LONGS, 6);
        Due.is("a row of 6", x.judge(5, 0), -5);
    }

    private static void judgeFirst() {
        for (int other = 0; other < 6; other++) {
            WoundEggs x = eggs(6);
            x.pass(5);
            x.tape(0, LONGS, 8);
            for (int e = 0; e < 6; e++) {
                x.item(0, e + 1, e < other ? 5 : e + 100);
            }
            Due.is("the first that is otherwise", x.judge(0, 1), other);
            x.item(0, other + 1, 5);
            Due.is("the next", x.judge(0, 1), other == 5 ? -5 : other + 1);
        }
        WoundEggs y = eggs(3);
        y.tape(0, LONGS, 2);
        y.item(0, 1, 1);
        Due.is("otherwise ahead of the end", y.judge(0, 0), 1);
        Due.is("otherwise ahead of the end", y.judge(0, 1), 0);
    }

    /** A long that is WENT in its lower bits alone is otherwise. */
    private static void judgeLongs() {
        WoundEggs x = eggs(1);
        x.pass(5);
        x.tape(0, LONGS, 1);
        long[] others = {4, 6, -5, 5 + (1L << 32), 5 + (1L << 63), Long.MIN_VALUE, Long.MAX_VALUE};
        for (long v : others) {
            x.item(0, 0, v);
            Due.is("otherwise by " + v, x.judge(0, 0), 0);
        }
        x.item(0, 0, 5);
        Due.is("as it is", x.judge(0, 0), -5);
    }

    // ---- promises 25, 26

    private static void image() {
        WoundEggs x = new WoundEggs();
        Due.is("undo, STATE: there is none", x.undo(), STATE);
        Due.is("undo, STATE: there is none", x.undo(), STATE);
        for (int many = 0; many <= 6; many++) {
            WoundEggs y = eggs(many);
            Due.is("undo ahead of an IMAGE", y.undo(), STATE);
            Due.is("EGGS stay", y.count(0), many);
            Due.is("image, how many EGGS", y.image(), many);
            Due.is("egg", y.egg(1, 9, 30, 29), many == 6 ? -4 : many);
            Due.is("undo, how many EGGS", y.undo(), many);
            Due.is("count", y.count(0), many);
            Due.is("undo again", y.undo(), many);
        }
    }

    private static void ask(WoundEggs x, int dueDay, int dueAll) {
        Due.is("DAY", x.told(0), dueDay);
        Due.is("ALL", x.told(1), dueAll);
    }

    private static void imageKeepsEach() {
        WoundEggs x = new WoundEggs();
        x.egg(6, 3, 1, 9);
        x.smash(0, true);
        x.egg(6, 3, 1, 9);
        x.row(1, 2, 7);
        Due.store(x, "all 4");
        x.listen(9);
        x.pass(20);
        x.image();
        x.set(1, 0, 30);
        x.set(1, 1, 29);
        x.smash(0, false);
        x.smash(1, true);
        x.row(1, 2, 8);
        Due.store(x, "all 5");
        x.listen(8);
        x.pass(20);
        x.hear(1, 1, true);
        x.plan(0, 0);
        x.book(0, 0);
        ask(x, 40, 5);
        Due.is("undo", x.undo(), 2);
        ask(x, 20, 4);
        int[] dues = {6, 3, 1, 9, 0, 5, 4, 4, 1, 1};
        for (int what = 0; what <= 9; what++) {
            Due.is("of(1, " + what + ")", x.of(1, what), dues[what]);
        }
        Due.is("BROKEN", x.of(0, 4), 1);
        Due.is("NEXT of a BROKEN one", x.of(0, 9), -5);
        Due.is("its ROW", x.row(1, 2, 0), 7);
        Due.is("LISTENING", x.told(2), 9);
        Due.is("HEARD", x.count(2), 0);
        Due.is("the PLAN", x.count(3), 0);
        Due.is("the BOOK", x.count(4), 0);
        Due.is("STORES are not of it", x.count(1), 2);
    }

    private static void imageWithoutStore() {
        WoundEggs x = new WoundEggs();
        x.egg(0, 0, 30, 3);
        x.image();
        Due.is("the first", Due.store(x, "all 7"), 0);
        Due.is("it holds", x.told(1), 7);
        x.undo();
        Due.is("none holds: ALL", x.told(1), 0);
        Due.is("none holds: REST", x.of(0, 8), 3);
        for (int i = 1; i <= 5; i++) {
            Due.is("the next number", Due.store(x, "all " + i), i);
            Due.is("it holds", x.told(1), i);
            Due.is("undo", x.undo(), 1);
            Due.is("none holds", x.told(1), 0);
        }
        Due.is("there are 6, of which none holds", Due.store(x, "all 9"), -4);
        Due.is("none holds", x.told(1), 0);
    }

    private static void laterImages() {
        WoundEggs x = eggs(1);
        x.image();
        x.pass(1);
        x.image();
        x.pass(1);
        Due.is("undo", x.undo(), 1);
        Due.is("to the latest IMAGE", x.told(0), 1);
        x.pass(5);
        Due.is("undo", x.undo(), 1);
        Due.is("to the latest IMAGE again", x.told(0), 1);
        x.hear(0, 5, true);
        x.plan(0, 0);
        x.book(0, 1);
        x.image();
        x.hear(-1, 0, true);
        x.plan(-1, 0);
        x.book(-1, 0);
        x.hear(0, 6, false);
        x.undo();
        x.hear(0, 7, false);
        x.undo();
        Due.is("HEARD", x.count(2), 1);
        Due.is("the PLAN", x.count(3), 1);
        Due.is("ENDS", x.ends(0), 2);
        Due.is("the BOOK", x.count(4), 1);
        Due.is("LOOKED at", x.looked(), -5);
    }

    /** What refers to EGGS that come after THE IMAGE is gone with them. */
    private static void undoneEggs() {
        WoundEggs x = eggs(1);
        x.image();
        Due.is("a second", x.egg(6, 9, 5, 2), 1);
        x.row(1, 1, 9);
        x.smash(1, true);
        x.hear(1, 0, true);
        x.plan(2, 1);
        x.book(1, 3);
        Due.is("undo", x.undo(), 1);
        Due.is("of(1, ..)", x.of(1, 0), NONE);
        Due.is("smash(1, ..)", x.smash(1, true), NONE);
        Due.is("hear(1, ..)", x.hear(1, 0, true), NONE);
        Due.is("plan(1, 1)", x.plan(1, 1), NONE);
        Due.is("book(1, ..)", x.book(1, 0), NONE);
        Due.is("together(2, ..)", x.together(2, 0), NO);
        Due.is("on(0, 11)", x.on(0, 11), NONE);
        Due.is("often(1, ..)", x.often(1, 1), NO);
        Due.is("can(1, ..)", x.can(1, 0, 0), NONE);
        Due.is("taken(1, ..)", x.taken(1, 0), NOTHING);
        Due.is("act(1, ..)", x.act(1, 0, 5), 0);
        Due.is("no TRACE", x.count(6), 0);
        Due.is("another second", x.egg(6, 0, 5, 0), 1);
        int[] dues = {6, 0, 5, 0, 0, 0, 0, 5, 0, 0};
        for (int what = 0; what <= 9; what++) {
            Due.is("it is new, " + what, x.of(1, what), dues[what]);
        }
    }

    // ---- promises 27, 28

    private static void noTrace(WoundEggs x, int egg, int act) {
        Due.is("an act ahead of it", x.act(0, 2, 5), 10);
        Due.is("its TRACE", x.count(6), 3);
        Due.is("act(" + egg + ", " + act + ", 5)", x.act(egg, act, 5), 0);
        Due.is("no TRACE then", x.count(6), 0);
        Due.edges("no TRACE then", NONE, x::trace, 0, -1);
    }

    private static void actOfNone() {
        Due.is("no EGGS", new WoundEggs().act(0, 0, 5), 0);
        for (int many = 1; many <= 6; many++) {
            WoundEggs x = eggs(many);
            for (int e = 0; e < many; e++) {
                Due.is("an EGG's ticks", x.act(e, 0, 5), 5 + e);
                Due.is("its TRACE", x.count(6), 1);
            }
            for (int e : new int[] {-1, many, 6, MIN, MAX}) {
                noTrace(x, e, 0);
            }
            for (int act : new int[] {-1, 3, MIN, MAX}) {
                noTrace(x, 0, act);
            }
            noTrace(x, many, 3);
        }
    }

    /** An act of EGG 3 of a KIND with v 5. */
    private static void act(int kind, int act, int x, int due) {
        WoundEggs eggs = eggs(3);
        eggs.egg(kind, 5, 1, 0);
        Due.is("KIND " + kind + ", act " + act + ", x " + x, eggs.act(3, act, x), due);
    }

    private static void actsWrap() {
        act(0, 0, MAX, MIN + 2);
        act(0, 0, MAX - 3, MAX);
        act(0, 1, MIN, MIN - 2);
        act(0, 1, MIN + 2, MIN);
        act(0, 1, MIN + 1, MAX);
        act(0, 2, 1 << 30, (1 << 30) * 2 - 4);
        act(0, 2, (1 << 30) + 1, MAX - 1);
        act(1, 1, MIN + 1, MAX - 6);
        act(2, 0, 1 << 30, -(1 << 30) + 3);
        act(2, 0, MAX, MAX - 2 + 3);
        act(4, 0, MIN - 3, MIN);
        act(4, 0, MAX, MAX - 1);
        act(4, 1, MAX, (MAX - 2 - 5) ^ 6);
        act(5, 2, MIN, ((MAX - 2) * 3 - 2) * 2);
        act(3, 2, MIN, -5);
        act(3, 2, 1 << 30, MAX - 4);
        act(6, 0, MAX, (MIN + 2) ^ 5);
        act(6, 1, MAX, (MIN + 2) ^ 5);
        act(6, 2, MAX, ((MIN + 2) ^ 5) * 2 + 1);
    }

    /** TOLD's tells is the act with most BODIES: 12, so that all are kept. */
    private static void mostBodies() {
        for (int kind = 0; kind <= 6; kind++) {
            WoundEggs x = new WoundEggs();
            x.egg(kind, 1, 1, 0);
            int[] bodies = {3, 4, 4, 6, 6, 5, 12};
            x.act(0, 2, 1);
            Due.is("how many ran, KIND " + kind, x.count(6), bodies[kind]);
            Due.edges("trace, NONE", NONE, x::trace, 0, bodies[kind] - 1);
            Due.refuses("trace, NONE", NONE, x::trace, 19, 20, 21);
        }
        WoundEggs x = new WoundEggs();
        Due.edges("no act yet", NONE, x::trace, 0, -1);
    }

    private static void traceOfLatest() {
        WoundEggs x = new WoundEggs();
        x.egg(6, 1, 1, 0);
        x.act(0, 2, 1);
        Due.is("the first of 12", x.trace(0), 40);
        Due.is("the last of 12", x.trace(11), 10);
        x.act(0, 0, 1);
        Due.is("the latest act's, the first", x.trace(0), 71);
        Due.is("the latest act's, the last", x.trace(1), 10);
        Due.is("behind it", x.trace(2), NONE);
        Due.is("how many", x.count(6), 2);
        x.taken(0, 7);
        x.of(1, 1);
        Due.is("no other call changes it", x.trace(1), 10);
    }

    // ---- promise 29

    private static void taken() {
        int[] above = {-1, 0, 0, 0, 1, 2, 3};
        for (int kind = 0; kind <= 6; kind++) {
            WoundEggs x = eggs(1);
            x.egg(kind, 0, 1, 0);
            for (int k = 0; k <= 6; k++) {
                boolean is = kind == k || above[kind] == k || k == 0;
                Due.is("KIND " + kind + " for " + k, x.taken(1, k), is ? kind : CAST);
                int of = k;
                Due.refuses("taken, NOTHING", NOTHING, e -> x.taken(e, of), -1, 2, 6, MIN, MAX);
            }
            Due.edges("taken, BAD: k", BAD, k -> x.taken(1, k), 0, 6);
            Due.is("k ahead of the EGG", x.taken(2, 7), BAD);
            Due.is("k ahead of the EGG", x.taken(-1, -1), BAD);
        }
        Due.is("no EGGS", new WoundEggs().taken(0, 0), NOTHING);
        Due.is("no EGGS, BAD", new WoundEggs().taken(0, 7), BAD);
    }

    // ---- promise 30

    private static void count() {
        Due.edges("count, BAD", BAD, what -> new WoundEggs().count(what), 0, 6);
        WoundEggs x = new WoundEggs();
        for (int what = 0; what <= 6; what++) {
            Due.is("none yet, " + what, x.count(what), 0);
        }
    }

    private static void countsAtMost() {
        WoundEggs x = eggs(5);
        x.egg(6, 0, 1, 0);
        for (int i = 0; i < 6; i++) {
            Due.is("its number", Due.store(x, "all 1"), i);
        }
        for (int i = 0; i < 100; i++) {
            x.feed('a');
        }
        for (int i = 0; i < 10; i++) {
            x.hear(0, 0, true);
            x.plan(0, 0);
            x.book(0, 0);
        }
        x.act(5, 2, 0);
        int[] dues = {6, 6, 6, 10, 8, 100, 12};
        for (int what = 0; what <= 6; what++) {
            Due.is("at most, " + what, x.count(what), dues[what]);
        }
    }

    // ---- promise 31

    private static void tape() {
        Due.edges("tape, NONE: tape", NONE, tape -> new WoundEggs().tape(tape, 0, 1), 0, 5);
        Due.takes("tape, sort", BAD, sort -> new WoundEggs().tape(0, sort, 1), -1, 4);
        Due.refuses("tape, BAD: sort", BAD, sort -> new WoundEggs().tape(0, sort, 1), -2, 5, MIN,
            MAX);
        for (int sort = BYTES; sort <= BOOLEANS; sort++) {
            int s = sort;
            Due.refuses("tape, n", 1, n -> new WoundEggs().tape(0, s, n), 0, 1, 59, 60);
            Due.refuses("tape, BAD: n", BAD, n -> new WoundEggs().tape(0, s, n), 61, 62, MAX);
            Due.refuses("tape, SIZE", SIZE, n -> new WoundEggs().tape(0, s, n), -1, -2, MIN);
        }
        for (int n : new int[] {0, 60, 61, -1, MIN, MAX}) {
            WoundEggs x = tapeOf(LONGS, 3);
            Due.is("sort -1: n does not matter", x.tape(0, -1, n), 1);
            Due.is("it holds nothing", x.item(0, 0, 1), NOTHING);
            Due.is("it holds nothing", x.read(0, 0), NO);
            Due.is("sort -1 again", x.tape(0, -1, n), 1);
        }
    }

    private static void tapeAnswersTheFirstNamed() {
        WoundEggs x = new WoundEggs();
        Due.is("tape ahead of sort", x.tape(6, 5, 61), NONE);
        Due.is("tape ahead of sort -1", x.tape(-1, -1, 0), NONE);
        Due.is("tape ahead of SIZE", x.tape(6, 0, -1), NONE);
        Due.is("sort ahead of SIZE", x.tape(0, 5, -1), BAD);
        Due.is("sort ahead of SIZE", x.tape(0, -2, MIN), BAD);
    }

    private static void tapeBecomes() {
        for (int sort = BYTES; sort <= BOOLEANS; sort++) {
            WoundEggs x = tapeOf(sort, 60);
            for (int i = 0; i < 60; i++) {
                Due.is("at first 0", x.read(0, i), 0);
                Due.is("item", x.item(0, i, 1), 1);
                Due.is("item", x.read(0, i), 1);
            }
            Due.is("refused", x.tape(0, sort, 61), BAD);
            Due.is("refused", x.tape(0, sort, -1), SIZE);
            Due.is("it stays", x.read(0, 59), 1);
            Due.is("shorter", x.tape(0, sort, 1), 1);
            Due.is("all 0", x.read(0, 0), 0);
            Due.is("its end", x.read(0, 1), NO);
            Due.is("longer", x.tape(0, sort, 60), 1);
            for (int i = 0; i < 60; i++) {
                Due.is("all 0", x.read(0, i), 0);
            }
        }
        WoundEggs y = new WoundEggs();
        for (int tape = 0; tape <= 5; tape++) {
            y.tape(tape, INTS, 2);
            y.item(tape, 1, tape + 1);
        }
        y.tape(3, -1, 0);
        for (int tape = 0; tape <= 5; tape++) {
            Due.is("the others stay", y.read(tape, 1), tape == 3 ? NO : tape + 1);
        }
    }

    // ---- promises 32, 33

    private static void item() {
        WoundEggs x = new WoundEggs();
        for (int tape = 0; tape <= 5; tape++) {
            Due.is("NOTHING", x.item(tape, 0, 1), NOTHING);
        }
        Due.refuses("item, NONE: tape", NONE, tape -> x.item(tape, 0, 1), -1, 6, MIN, MAX);
        for (int sort = BYTES; sort <= BOOLEANS; sort++) {
            for (int n : new int[] {0, 1, 2, 59, 60}) {
                WoundEggs y = tapeOf(sort, n);
                Due.edges("item, PLACE of " + n, PLACE, i -> y.item(0, i, 1), 0, n - 1);
                Due.edges("read, NO: place of " + n, NO, i -> y.read(0, i), 0, n - 1);
            }
        }
    }

    private static void itemAnswersTheFirstNamed() {
        WoundEggs x = tapeOf(INTS, 1);
        Due.is("tape ahead of the place", x.item(6, -1, 1), NONE);
        Due.is("NOTHING ahead of the place", x.item(1, -1, 1), NOTHING);
        Due.is("NOTHING ahead of the place", x.item(5, 60, 1), NOTHING);
    }

    private static void becomes(int sort, long v, long due) {
        WoundEggs x = tapeOf(sort, 3);
        x.item(0, 0, 1);
        x.item(0, 2, 1);
        Due.is("item becomes", x.item(0, 1, v), 1);
        Due.is("sort " + sort + ", " + v, x.read(0, 1), due);
        Due.is("those beside stay", x.read(0, 0), 1);
        Due.is("those beside stay", x.read(0, 2), 1);
    }

    /** Of each sort: the most and the least of it, and the numbers beyond. */
    private static void lowestBits() {
        int[] bits = {8, 16, 32};
        for (int sort = BYTES; sort <= INTS; sort++) {
            long half = 1L << bits[sort] - 1;
            becomes(sort, half - 1, half - 1);
            becomes(sort, half, -half);
            becomes(sort, half + 1, -half + 1);
            becomes(sort, -half, -half);
            becomes(sort, -half - 1, half - 1);
            becomes(sort, 2 * half - 1, -1);
            becomes(sort, 2 * half, 0);
            becomes(sort, 2 * half + 1, 1);
            becomes(sort, -2 * half, 0);
            becomes(sort, Long.MIN_VALUE, 0);
            becomes(sort, Long.MAX_VALUE, -1);
            becomes(sort, -1, -1);
        }
        for (long v : new long[] {Long.MIN_VALUE, Long.MAX_VALUE, -1, 0, 1, 1L << 32, 1L << 62}) {
            becomes(LONGS, v, v);
        }
    }

    private static void booleans() {
        becomes(BOOLEANS, 0, 0);
        for (long v : new long[] {1, 2, -1, 256, 1L << 16, 1L << 32, 1L << 62, Long.MIN_VALUE,
            Long.MAX_VALUE}) {
            becomes(BOOLEANS, v, 1);
        }
        WoundEggs x = tapeOf(BOOLEANS, 1);
        x.item(0, 0, 7);
        x.item(0, 0, 0);
        Due.is("0 again", x.read(0, 0), 0);
    }

    private static void read() {
        WoundEggs x = new WoundEggs();
        for (int tape = 0; tape <= 5; tape++) {
            Due.is("read, NO: nothing there", x.read(tape, 0), NO);
            x.tape(tape, LONGS, 1);
            Due.is("read", x.read(tape, 0), 0);
            x.item(tape, 0, tape + 1);
        }
        for (int tape = 0; tape <= 5; tape++) {
            Due.is("read, each its own", x.read(tape, 0), tape + 1);
        }
        Due.refuses("read, NO: tape", NO, tape -> x.read(tape, 0), -1, 6, MIN, MAX);
        Due.refuses("read, NO: neither", NO, tape -> x.read(tape, 1), -1, 6, MIN, MAX);
    }

    // ---- promise 34

    private static void shiftTapes() {
        WoundEggs x = new WoundEggs();
        for (int tape = 0; tape <= 5; tape++) {
            x.tape(tape, INTS, 2);
        }
        Due.edges("shift, NONE: tape", NONE, tape -> x.shift(tape, 0, 0, 0, 1), 0, 5);
        Due.edges("shift, NONE: other", NONE, other -> x.shift(0, 0, other, 0, 1), 0, 5);
        for (int from = 0; from <= 5; from++) {
            for (int to = 0; to <= 5; to++) {
                x.item(from, 0, 10 + from);
                x.item(to, 1, 0);
                Due.is("shift", x.shift(from, 0, to, 1, 1), 1);
                Due.is("from " + from + " to " + to, x.read(to, 1), 10 + from);
            }
        }
        for (int one = BYTES; one <= BOOLEANS; one++) {
            for (int other = BYTES; other <= BOOLEANS; other++) {
                x.tape(0, one, 1);
                x.tape(1, other, 1);
                x.item(0, 0, 1);
                Due.is("sorts " + one + ", " + other, x.shift(0, 0, 1, 0, 1),
                    one == other ? 1 : CAST);
                Due.is("the item there", x.read(1, 0), one == other ? 1 : 0);
            }
        }
    }

    private static void shiftAnswersTheFirstNamed() {
        WoundEggs x = new WoundEggs();
        x.tape(0, INTS, 3);
        x.tape(1, LONGS, 3);
        Due.is("tapes ahead of NOTHING", x.shift(6, 0, 5, 0, 0), NONE);
        Due.is("tapes ahead of NOTHING", x.shift(5, 0, 6, 0, 0), NONE);
        Due.is("tapes ahead of PLACE", x.shift(0, -1, -1, 9, 9), NONE);
        Due.is("NOTHING: the one", x.shift(5, 0, 0, 0, 0), NOTHING);
        Due.is("NOTHING: the other", x.shift(0, 0, 5, 0, 0), NOTHING);
        Due.is("NOTHING: both", x.shift(5, 0, 5, 0, 0), NOTHING);
        Due.is("NOTHING ahead of PLACE", x.shift(0, -1, 5, 9, 9), NOTHING);
        Due.is("NOTHING ahead of PLACE", x.shift(5, -1, 0, 9, -9), NOTHING);
        Due.is("CAST ahead of PLACE", x.shift(0, -1, 1, 0, 1), CAST);
        Due.is("CAST ahead of PLACE", x.shift(1, 0, 0, 4, 1), CAST);
        Due.is("CAST of none", x.shift(0, 0, 1, 0, 0), CAST);
        Due.is("CAST ahead of n", x.shift(0, 0, 1, 0, -1), CAST);
    }

    /** Of 5 items and of 3: each n, i and j from one below to one beyond. */
    private static void shiftPlaces() {
        for (int n = -1; n <= 6; n++) {
            for (int i = -1; i <= 6; i++) {
                for (int j = -1; j <= 6; j++) {
                    WoundEggs x = tapeOf(BYTES, 5);
                    x.tape(1, BYTES, 3);
                    for (int k = 0; k < 5; k++) {
                        x.item(0, k, k + 1);
                    }
                    boolean fits = n >= 0 && i >= 0 && j >= 0 && i + n <= 5 && j + n <= 3;
                    String call = "shift(0, " + i + ", 1, " + j + ", " + n + ")";
                    Due.is(call, x.shift(0, i, 1, j, n), fits ? n : PLACE);
                    for (int k = 0; k < 3; k++) {
                        boolean comes = fits && k >= j && k < j + n;
                        Due.is(call + ", item " + k, x.read(1, k), comes ? i + k - j + 1 : 0);
                    }
                    Due.is(call + ", from there", x.read(0, 4), 5);
                }
            }
        }
    }

    private static void shiftFar() {
        WoundEggs x = tapeOf(LONGS, 60);
        for (int far : new int[] {MIN, MIN + 1, -60, -2, 61, 62, MAX - 60, MAX - 1, MAX}) {
            Due.is("far n", x.shift(0, 0, 0, 0, far), PLACE);
            Due.is("far i", x.shift(0, far, 0, 0, 1), PLACE);
            Due.is("far j", x.shift(0, 0, 0, far, 1), PLACE);
            Due.is("far i, none", x.shift(0, far, 0, 0, 0), PLACE);
            Due.is("far j, none", x.shift(0, 0, 0, far, 0), PLACE);
            Due.is("all far", x.shift(0, far, 0, far, far), PLACE);
            Due.is("far n behind the first", x.shift(0, 1, 0, 1, far), PLACE);
        }
        Due.is("all of it", x.shift(0, 0, 0, 0, 60), 60);
        Due.is("all but one", x.shift(0, 1, 0, 0, 59), 59);
        Due.is("one more than that", x.shift(0, 1, 0, 0, 60), PLACE);
        Due.is("one more than that", x.shift(0, 0, 0, 1, 60), PLACE);
        Due.is("the last", x.shift(0, 59, 0, 0, 1), 1);
        Due.is("behind it", x.shift(0, 60, 0, 0, 1), PLACE);
        Due.is("to the last", x.shift(0, 0, 0, 59, 1), 1);
        Due.is("behind it", x.shift(0, 0, 0, 60, 1), PLACE);
    }

    private static void shiftNone() {
        WoundEggs x = tapeOf(SHORTS, 60);
        Due.is("none from the end", x.shift(0, 60, 0, 0, 0), 0);
        Due.is("none to the end", x.shift(0, 0, 0, 60, 0), 0);
        Due.is("none behind the end", x.shift(0, 61, 0, 0, 0), PLACE);
        Due.is("none behind the end", x.shift(0, 0, 0, 61, 0), PLACE);
        x.tape(1, SHORTS, 0);
        Due.is("none to a row of none", x.shift(0, 0, 1, 0, 0), 0);
        Due.is("none from a row of none", x.shift(1, 0, 0, 0, 0), 0);
        Due.is("none of a row of none", x.shift(1, 0, 1, 0, 0), 0);
        Due.is("one to a row of none", x.shift(0, 0, 1, 0, 1), PLACE);
        Due.is("one from a row of none", x.shift(1, 0, 0, 0, 1), PLACE);
        Due.is("none behind the end of none", x.shift(1, 1, 0, 0, 0), PLACE);
    }

    /** To the same one: each from and to. */
    private static void shiftAsTheyWere() {
        int size = 6;
        for (int sort = BYTES; sort <= LONGS; sort++) {
            for (int i = 0; i < size; i++) {
                for (int j = 0; j < size; j++) {
                    int n = size - Math.max(i, j);
                    WoundEggs x = tapeOf(sort, size);
                    for (int k = 0; k < size; k++) {
                        x.item(0, k, 20 + k);
                    }
                    Due.is("shift", x.shift(0, i, 0, j, n), n);
                    for (int k = 0; k < size; k++) {
                        boolean came = k >= j && k < j + n;
                        Due.is("from " + i + " to " + j + ", item " + k, x.read(0, k),
                            came ? 20 + i + k - j : 20 + k);
                    }
                }
            }
        }
    }
}
