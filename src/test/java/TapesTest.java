/** Promises 24 to 34: judging, the image, acts, tapes. */
public final class TapesTest {
    public static void main(String[] args) {
        judging();
        images();
        imageOfNothing();
        acts();
        traces();
        taken();
        counts();
        tapes();
        items();
        shifts();
        Due.end();
    }

    private static void judging() {
        WoundEggs x = new WoundEggs();
        Due.is("judge(6, 0)", x.judge(6, 0), -1);
        Due.is("judge(-1, 0)", x.judge(-1, 0), -1);
        Due.is("no EGGS, nothing held", x.judge(0, -1), -5);
        x.tape(1, 2, 5);
        Due.is("no EGGS, ints", x.judge(1, 0), -12);
        x.tape(0, 3, 4);
        Due.is("no EGGS", x.judge(0, 99), -5);
        x.egg(0, 0, 1, 0);
        x.egg(0, 0, 2, 0);
        x.egg(0, 0, 3, 0);
        Due.is("all 0", x.judge(0, 0), -5);
        Due.is("all 0 from 1 on", x.judge(0, 1), -5);
        Due.is("from 2 on", x.judge(0, 2), 102);
        Due.is("from 4 on", x.judge(0, 4), 100);
        Due.is("from 5 on", x.judge(0, 5), 100);
        Due.is("from far on", x.judge(0, Integer.MAX_VALUE), 100);
        Due.is("from -1 on", x.judge(0, -1), 100);
        Due.is("from far below on", x.judge(0, Integer.MIN_VALUE), 100);
        Due.is("nothing held", x.judge(2, 0), 100);
        for (int sort = 0; sort <= 4; sort++) {
            x.tape(3, sort, 9);
            Due.is("sort " + sort, x.judge(3, 0), sort == 3 ? -5 : -12);
        }
        x.tape(5, 3, 3);
        Due.is("the last TAPE", x.judge(5, 0), -5);
        x.pass(6);
        x.item(0, 1, 6);
        Due.is("the first otherwise", x.judge(0, 0), 0);
        Due.is("the second otherwise", x.judge(0, 1), 1);
        x.item(0, 2, 3);
        Due.is("the third otherwise", x.judge(0, 1), 2);
        x.item(0, 3, 2);
        Due.is("none otherwise", x.judge(0, 1), -5);
        x.item(0, 3, 2 + (1L << 32));
        Due.is("the third otherwise, far", x.judge(0, 1), 2);
        Due.is("otherwise ahead of the end", x.judge(0, 3), 0);
    }

    private static void images() {
        WoundEggs x = new WoundEggs();
        Due.is("undo", x.undo(), -3);
        x.egg(6, 1, 9, 2);
        x.row(0, 1, 3);
        Due.is("store", Due.store(x, "all 1"), 0);
        x.pass(10);
        x.listen(5);
        x.hear(0, 6, true);
        x.plan(0, 0);
        x.book(0, 7);
        x.feed('a');
        Due.is("image", x.image(), 1);
        x.egg(0, 0, 3, 0);
        x.row(0, 1, 9);
        x.row(0, 2, 9);
        x.set(0, 0, 7);
        x.set(0, 1, 9);
        x.smash(0, true);
        x.listen(0);
        x.pass(60);
        x.hear(-1, 0, true);
        x.hear(1, 1, false);
        x.hear(1, 1, false);
        x.plan(-1, 0);
        x.plan(3, 3);
        x.plan(3, 3);
        x.book(-1, 0);
        x.book(1, 0);
        x.book(1, 0);
        x.tape(0, 1, 5);
        x.act(0, 0, 4);
        x.feed('b');
        Due.is("undo", x.undo(), 1);
        Due.is("count(0)", x.count(0), 1);
        int[] dues = {6, 1, 9, 2, 0, 1, 0, 10, 6, 6};
        for (int what = 0; what <= 9; what++) {
            Due.is("of(0, " + what + ")", x.of(0, what), dues[what]);
        }
        Due.is("row(0, 1, 0)", x.row(0, 1, 0), 3);
        Due.is("row(0, 2, 0)", x.row(0, 2, 0), 0);
        Due.is("told(0)", x.told(0), 10);
        Due.is("told(2)", x.told(2), 5);
        Due.is("count(2)", x.count(2), 1);
        Due.is("count(3)", x.count(3), 1);
        Due.is("count(4)", x.count(4), 1);
        Due.is("looked", x.looked(), 0);
        Due.is("ends, one DAY", x.ends(0), 1);
        Due.is("THE TEXT stays", x.count(5), 2);
        Due.is("THE TRACE stays", x.trace(0), 71);
        Due.is("TAPES stay", x.read(0, 4), 0);
        Due.is("of(1, 0)", x.of(1, 0), -1);
        Due.is("a second EGG", x.egg(2, 4, 5, 6), 1);
        Due.is("its WENT", x.of(1, 5), 0);
        Due.is("undo again", x.undo(), 1);
        Due.is("row(0, 1, 0)", x.row(0, 1, 0), 3);
        Due.is("HEARD: REST 6, or another", x.can(0, 0, 0), 3);
    }

    private static void imageOfNothing() {
        WoundEggs x = new WoundEggs();
        Due.is("image of nothing", x.image(), 0);
        x.egg(0, 0, 9, 0);
        Due.is("store", Due.store(x, "all 7"), 0);
        Due.is("REST", x.of(0, 8), 7);
        Due.is("undo", x.undo(), 0);
        Due.is("of(0, 0)", x.of(0, 0), -1);
        Due.is("no STORE holds", x.told(1), 0);
        Due.is("STORES stay", x.count(1), 1);
        x.egg(4, 0, 9, 0);
        Due.is("REST without a STORE", x.of(0, 8), 8);
        Due.is("the next STORE", Due.store(x, "all 3"), 1);
        Due.is("it holds", x.told(1), 3);
        Due.is("image", x.image(), 1);
        Due.is("the third STORE", Due.store(x, "all 5"), 2);
        Due.is("undo", x.undo(), 1);
        Due.is("the second holds", x.told(1), 3);
    }

    /** An act of EGG 2 of a KIND, v 5, with x 7: what it answers, and its trace. */
    private static void act(int kind, int act, int due, int... bodies) {
        WoundEggs x = new WoundEggs();
        x.egg(0, 0, 1, 0);
        x.egg(0, 0, 1, 0);
        x.egg(kind, 5, 1, 0);
        String call = "act " + act + " of kind " + kind;
        Due.is(call, x.act(2, act, 7), due);
        Due.is(call + ": how many bodies", x.count(6), bodies.length);
        for (int i = 0; i < bodies.length; i++) {
            Due.is(call + ": trace " + i, x.trace(i), bodies[i]);
        }
        Due.is(call + ": behind the last", x.trace(bodies.length), -1);
        Due.is(call + ": trace(-1)", x.trace(-1), -1);
    }

    private static void acts() {
        act(0, 0, 9, 10);
        act(0, 1, 4, 11, 10);
        act(0, 2, 8, 12, 11, 10);
        act(1, 0, 9, 10);
        act(1, 1, 4 ^ 6, 20, 11, 10);
        act(1, 2, (4 ^ 6) * 2, 12, 20, 11, 10);
        act(2, 0, 23, 30, 10);
        act(2, 1, 18, 11, 30, 10);
        act(2, 2, 36, 12, 11, 30, 10);
        act(3, 0, 9, 10);
        act(3, 1, 4, 11, 10);
        act(3, 2, 8 + 1 + 2 - 5, 40, 12, 11, 10, 11, 10);
        act(4, 0, -9, 50, 10);
        act(4, 1, (-10 - 5) ^ 6, 51, 20, 11, 50, 10);
        act(4, 2, ((-10 - 5) ^ 6) * 2, 12, 51, 20, 11, 50, 10);
        act(5, 0, 23, 30, 10);
        act(5, 1, 18, 11, 30, 10);
        act(5, 2, (5 * 3 + 2 - 5) * 2, 60, 12, 11, 30, 10);
        act(6, 0, 9 ^ 5, 71, 10);
        act(6, 1, (9 ^ 5) - 5 + 4, 70, 11, 71, 10, 10);
        act(6, 2, ((9 ^ 5) - 5 + 4) * 2 + (3 ^ 5) - 5 + 4,
            40, 12, 70, 11, 71, 10, 10, 70, 11, 71, 10, 10);
    }

    private static void traces() {
        WoundEggs x = new WoundEggs();
        x.egg(2, 1, 1, 0);
        x.egg(2, 1, 1, 0);
        Due.is("wrapping", x.act(1, 0, Integer.MAX_VALUE), Integer.MAX_VALUE * 3 + 1);
        Due.is("wrapping", x.act(1, 2, Integer.MIN_VALUE), Integer.MIN_VALUE * 3 * 2);
        Due.is("three bodies", x.count(6), 4);
        Due.is("no such act", x.act(1, 3, 5), 0);
        Due.is("no TRACE then", x.count(6), 0);
        Due.is("no TRACE then", x.trace(0), -1);
        x.act(1, 0, 5);
        Due.is("two bodies", x.count(6), 2);
        Due.is("no such EGG", x.act(2, 0, 5), 0);
        Due.is("no TRACE then", x.count(6), 0);
        x.act(1, 0, 5);
        Due.is("no such act", x.act(1, -1, 5), 0);
        Due.is("no TRACE then", x.trace(0), -1);
        Due.is("trace far out", x.trace(Integer.MAX_VALUE), -1);
        x.smash(1, true);
        Due.is("an act of a broken one", x.act(1, 0, 5), 16);
    }

    private static void taken() {
        int[][] under = {{0}, {0, 1}, {0, 2}, {0, 3}, {0, 1, 4}, {0, 2, 5}, {0, 3, 6}};
        for (int kind = 0; kind <= 6; kind++) {
            WoundEggs x = new WoundEggs();
            x.egg(kind, 0, 1, 0);
            for (int k = 0; k <= 6; k++) {
                boolean is = false;
                for (int u : under[kind]) {
                    is |= u == k;
                }
                Due.is("kind " + kind + " taken for " + k, x.taken(0, k), is ? kind : -12);
            }
            Due.is("taken(0, 7)", x.taken(0, 7), -2);
            Due.is("taken(0, -1)", x.taken(0, -1), -2);
            Due.is("taken(1, 0)", x.taken(1, 0), -11);
            Due.is("taken(-1, 0)", x.taken(-1, 0), -11);
            Due.is("taken(1, 7)", x.taken(1, 7), -2);
        }
    }

    private static void counts() {
        WoundEggs x = new WoundEggs();
        Due.is("store", Due.store(x, "all 1"), 0);
        Due.is("store", Due.store(x, "all 2"), 1);
        Due.is("store", Due.store(x, "all 3"), 2);
        x.egg(6, 0, 1, 0);
        x.egg(0, 0, 1, 0);
        x.hear(0, 0, true);
        for (int i = 0; i < 4; i++) {
            x.plan(0, 0);
            x.feed(1);
        }
        for (int i = 0; i < 5; i++) {
            x.book(0, 0);
            x.feed(1);
        }
        x.act(0, 2, 0);
        int[] dues = {2, 3, 1, 4, 5, 9, 12};
        for (int what = 0; what <= 6; what++) {
            Due.is("count(" + what + ")", x.count(what), dues[what]);
        }
        Due.is("count(7)", x.count(7), -2);
        Due.is("count(-1)", x.count(-1), -2);
    }

    private static void tapes() {
        WoundEggs x = new WoundEggs();
        Due.is("tape(6, ..)", x.tape(6, 0, 1), -1);
        Due.is("tape(-1, ..)", x.tape(-1, 9, 99), -1);
        Due.is("sort 5", x.tape(0, 5, 1), -2);
        Due.is("sort -2", x.tape(0, -2, -1), -2);
        Due.is("n 61", x.tape(0, 0, 61), -2);
        Due.is("n -1", x.tape(0, 0, -1), -14);
        Due.is("n far below", x.tape(0, 0, Integer.MIN_VALUE), -14);
        Due.is("nothing yet", x.item(0, 0, 0), -11);
        Due.is("n 60", x.tape(0, 0, 60), 1);
        Due.is("the last", x.item(0, 59, 7), 1);
        Due.is("behind the last", x.item(0, 60, 7), -13);
        Due.is("the last", x.read(0, 59), 7);
        Due.is("behind the last", x.read(0, 60), WoundEggs.NO);
        Due.is("again", x.tape(0, 0, 60), 1);
        Due.is("all 0", x.read(0, 59), 0);
        Due.is("n 0", x.tape(0, 3, 0), 1);
        Due.is("no place", x.item(0, 0, 7), -13);
        Due.is("no place", x.read(0, 0), WoundEggs.NO);
        Due.is("nothing", x.tape(0, -1, 61), 1);
        Due.is("nothing", x.item(0, 0, 7), -11);
        Due.is("a TAPE unlike another", x.tape(5, 2, 3), 1);
        Due.is("the last TAPE's item", x.item(5, 1, 8), 1);
        Due.is("the last TAPE's item", x.read(5, 1), 8);
        Due.is("a TAPE unlike another", x.item(4, 0, 3), -11);
    }

    private static void items() {
        long v = 0x123456789ABCDEF0L;
        long[] dues = {(byte) 0xF0, (short) 0xDEF0, (int) 0x9ABCDEF0L, v, 1};
        for (int sort = 0; sort <= 4; sort++) {
            WoundEggs x = new WoundEggs();
            x.tape(1, sort, 3);
            Due.is("item of " + sort, x.item(1, 2, v), 1);
            Due.is("read of " + sort, x.read(1, 2), dues[sort]);
            Due.is("the others stay", x.read(1, 1), 0);
            Due.is("item -1", x.item(1, -1, v), -13);
            Due.is("item 3", x.item(1, 3, v), -13);
            Due.is("item far out", x.item(1, Integer.MAX_VALUE, v), -13);
            Due.is("item of no TAPE", x.item(6, 0, v), -1);
            Due.is("item of no TAPE", x.item(-1, 0, v), -1);
            Due.is("read -1", x.read(1, -1), WoundEggs.NO);
            Due.is("read of no TAPE", x.read(6, 0), WoundEggs.NO);
            Due.is("read of no TAPE", x.read(-1, 0), WoundEggs.NO);
            Due.is("item of " + sort, x.item(1, 2, 1L << 40), 1);
            Due.is("read of " + sort, x.read(1, 2), sort == 3 ? 1L << 40 : sort == 4 ? 1 : 0);
            Due.is("item of " + sort, x.item(1, 2, 0), 1);
            Due.is("read of " + sort, x.read(1, 2), 0);
        }
    }

    private static void row(WoundEggs x, int tape, long... dues) {
        for (int i = 0; i < dues.length; i++) {
            Due.is("read(" + tape + ", " + i + ")", x.read(tape, i), dues[i]);
        }
    }

    private static void shifts() {
        WoundEggs x = new WoundEggs();
        Due.is("no TAPE", x.shift(6, 0, 0, 0, 0), -1);
        Due.is("no other TAPE", x.shift(0, 0, 6, 0, 0), -1);
        Due.is("no other TAPE", x.shift(0, 0, -1, 0, 0), -1);
        x.tape(0, 2, 5);
        Due.is("nothing there", x.shift(0, 0, 1, 0, -1), -11);
        Due.is("nothing there", x.shift(1, 0, 0, 0, -1), -11);
        x.tape(1, 2, 3);
        x.tape(2, 3, 3);
        Due.is("unlike sorts", x.shift(0, 0, 2, 0, -1), -12);
        for (int i = 0; i < 5; i++) {
            x.item(0, i, i + 1);
        }
        Due.is("n -1", x.shift(0, 1, 1, 1, -1), -13);
        Due.is("i -1", x.shift(0, -1, 1, 0, 1), -13);
        Due.is("j -1", x.shift(0, 0, 1, -1, 1), -13);
        Due.is("beyond the one's end", x.shift(0, 4, 1, 0, 2), -13);
        Due.is("beyond the other's end", x.shift(0, 0, 1, 2, 2), -13);
        Due.is("beyond, far", x.shift(0, 1, 1, 1, Integer.MAX_VALUE), -13);
        Due.is("beyond, far", x.shift(0, Integer.MAX_VALUE, 1, 0, 1), -13);
        Due.is("beyond, none", x.shift(0, 6, 1, 0, 0), -13);
        Due.is("at the ends, none", x.shift(0, 5, 1, 3, 0), 0);
        row(x, 1, 0, 0, 0);
        Due.is("to another", x.shift(0, 3, 1, 1, 2), 2);
        row(x, 1, 0, 4, 5);
        row(x, 0, 1, 2, 3, 4, 5);
        Due.is("to the same, up", x.shift(0, 0, 0, 1, 4), 4);
        row(x, 0, 1, 1, 2, 3, 4);
        Due.is("to the same, down", x.shift(0, 1, 0, 0, 4), 4);
        row(x, 0, 1, 2, 3, 4, 4);
        Due.is("all of it", x.shift(0, 0, 0, 0, 5), 5);
        row(x, 0, 1, 2, 3, 4, 4);
        for (int sort = 0; sort <= 4; sort++) {
            x.tape(4, sort, 2);
            x.tape(5, sort, 2);
            x.item(5, 0, 1);
            Due.is("of sort " + sort, x.shift(5, 0, 4, 1, 1), 1);
            row(x, 4, 0, 1);
            row(x, 5, 1, 0);
            Due.is("of sort " + sort, x.shift(4, 0, 5, 0, 1), 1);
            row(x, 5, 0, 0);
        }
    }
}
