import java.util.ArrayList;
import java.util.List;
import java.util.function.Consumer;
import java.util.function.ToLongFunction;

/**
 * What is answered by a refusal, and what is asked, changes nothing: of two objects alike one gets
 * the call and the other does not; then both are asked for all that can be asked, and are alike.
 */
public final class UnchangedTest {
    private static final int NONE = -1, BAD = -2, STATE = -3, FULL = -4;
    private static final int NOTHING = -11, CAST = -12, PLACE = -13, SIZE = -14;
    private static final int MIN = Integer.MIN_VALUE, MAX = Integer.MAX_VALUE;
    private static final long NO = WoundEggs.NO;

    public static void main(String[] args) {
        showsChanges();
        withoutEggs();
        eggsRefused();
        textsRefused();
        daysRefused();
        heardRefused();
        plansRefused();
        booksRefused();
        tapesRefused();
        shiftsRefused();
        actsRefused();
        allFull();
        textIsFull();
        asked();
        askedOfNoEggs();
        faults();
        withoutChange();
        Due.end();
    }

    // ---- objects to begin with

    private static void feed(WoundEggs x, String text) {
        for (int i = 0; i < text.length(); i++) {
            x.feed(text.charAt(i));
        }
    }

    private static WoundEggs empty() {
        return new WoundEggs();
    }

    /** Some of all, room for more, and an IMAGE that is otherwise. */
    private static WoundEggs some() {
        WoundEggs x = new WoundEggs();
        x.egg(6, 3, 7, 4);
        x.egg(4, 2, 5, 3);
        x.row(0, 3, 5);
        feed(x, "late 2 p=0;all 1");
        x.store();
        x.hear(1, 3, false);
        x.plan(3, 1);
        x.book(1, 2);
        x.pass(9);
        x.image();
        x.egg(5, 1, 3, 20);
        x.smash(1, true);
        x.listen(21);
        x.row(0, 1, 9);
        feed(x, "early 3 v>1|!b=0");
        x.store();
        x.pass(23);
        x.hear(0, 4, true);
        x.plan(0, 0);
        x.plan(2, 1);
        x.plan(0, 0);
        x.book(0, 4);
        x.tape(0, 3, 5);
        x.tape(1, 3, 3);
        x.tape(2, 0, 4);
        for (int i = 0; i < 5; i++) {
            x.item(0, i, 3 + i);
            x.item(2, i, -i);
        }
        x.act(0, 2, 6);
        feed(x, "late 1 k=");
        return x;
    }

    /** As many of all as there can be, but for THE TEXT. */
    private static WoundEggs full() {
        WoundEggs x = new WoundEggs();
        for (int i = 0; i < 6; i++) {
            x.egg(6 - i, i, 3 + i, 20 - i);
            feed(x, i == 5 ? "late 3 m<6;all 2" : "all " + i);
            x.store();
            x.hear(i, i, false);
        }
        x.image();
        x.pass(40);
        for (int i = 0; i < 8; i++) {
            x.book(i % 6, i + 1);
        }
        for (int i = 0; i < 10; i++) {
            x.plan(i % 3 == 2 ? 1 : 0, i % 6);
        }
        feed(x, "all 9");
        return x;
    }

    /** THE TEXT is as long as it can be, and a STORE. */
    private static WoundEggs longText() {
        WoundEggs x = new WoundEggs();
        x.egg(0, 0, 9, 1);
        feed(x, "late 12 " + "p=9|".repeat(22) + "p=00");
        return x;
    }

    // ---- all that can be asked

    private static void eggsOf(WoundEggs x, List<String> all) {
        for (int e = 0; e <= 5; e++) {
            for (int what = 0; what <= 9; what++) {
                all.add("of(" + e + ", " + what + ") is " + x.of(e, what));
            }
            for (int which = 0; which <= 2; which++) {
                all.add("can(" + e + ", " + which + ", 0) is " + x.can(e, which, 0));
                all.add("can(" + e + ", " + which + ", 1) is " + x.can(e, which, 1));
            }
            all.add("on(30, 1" + e + ") is " + x.on(30, 10 + e));
            all.add("often(" + e + ", 99) is " + x.often(e, 99));
        }
    }

    private static void daysOf(WoundEggs x, List<String> all) {
        for (int i = 0; i <= 6; i++) {
            all.add("told(" + i + ") is " + x.told(i));
            all.add("count(" + i + ") is " + x.count(i));
        }
        for (int i = 0; i <= 1; i++) {
            all.add("together(3, " + i + ") is " + x.together(3, i));
            all.add("odds(" + i + ") is " + x.odds(i));
            all.add("mean(9, " + i + ") is " + x.mean(9, i));
            all.add("ends(" + i + ") is " + x.ends(i));
            all.add("busy(20, " + i + ") is " + x.busy(20, i));
            all.add("on(17, " + i + ") is " + x.on(17, i + 1));
        }
        all.add("looked() is " + x.looked());
    }

    private static void tapesOf(WoundEggs x, List<String> all) {
        for (int tape = 0; tape <= 5; tape++) {
            for (int i = 0; i <= 5; i++) {
                all.add("read(" + tape + ", " + i + ") is " + x.read(tape, i));
            }
            all.add("item(" + tape + ", -1, 0) is " + x.item(tape, -1, 0));
            all.add("judge(" + tape + ", 0) is " + x.judge(tape, 0));
        }
        for (int i = 0; i <= 12; i++) {
            all.add("trace(" + i + ") is " + x.trace(i));
        }
    }

    /** What shows only in that it is changed: ROWS, THE TEXT. */
    private static void hiddenOf(WoundEggs x, List<String> all) {
        for (int part = 0; part <= 3; part++) {
            all.add("row(0, " + part + ", 0) is " + x.row(0, part, 0));
        }
        all.add("feed('3') is " + x.feed('3'));
        all.add("store() is " + x.store());
        all.add("ALL is " + x.told(1));
        all.add("SUMS are " + x.of(0, 8) + " " + x.of(1, 8) + " " + x.of(2, 8));
    }

    private static String all(WoundEggs x, boolean undone) {
        List<String> all = new ArrayList<>();
        if (undone) {
            all.add("undo() is " + x.undo());
        }
        eggsOf(x, all);
        daysOf(x, all);
        tapesOf(x, all);
        hiddenOf(x, all);
        return String.join("; ", all);
    }

    private interface Made {
        WoundEggs make();
    }

    private static void unchanged(Made made, String call, Consumer<WoundEggs> calls) {
        for (boolean undone : new boolean[] {false, true}) {
            WoundEggs one = made.make();
            calls.accept(one);
            Due.isAlike("behind " + call, all(one, undone), all(made.make(), undone));
        }
    }

    private static void refused(Made made, String call, long due, ToLongFunction<WoundEggs> calls) {
        unchanged(made, call, x -> Due.is(call, calls.applyAsLong(x), due));
        unchanged(made, call + ", twice", x -> {
            calls.applyAsLong(x);
            Due.is(call + " again", calls.applyAsLong(x), due);
        });
    }

    /** What is asked above shows changes at all: else nothing is tested here. */
    private static void showsChanges() {
        List<Consumer<WoundEggs>> changes = List.of(x -> x.egg(0, 0, 2, 0), x -> x.set(0, 0, 8),
            x -> x.set(1, 1, 8), x -> x.smash(2, true), x -> x.listen(22), x -> x.row(0, 0, 3),
            x -> x.row(0, 2, 3), x -> x.feed('1'), x -> x.store(), x -> x.pass(1),
            x -> x.hear(1, 4, true), x -> x.hear(-1, 0, true), x -> x.plan(0, 0),
            x -> x.plan(-1, 0), x -> x.book(0, 7), x -> x.book(-1, 0), x -> x.undo(),
            x -> x.act(0, 0, 5), x -> x.tape(0, 3, 5), x -> x.tape(0, -1, 5), x -> x.tape(5, 3, 0),
            x -> x.item(2, 3, 99), x -> x.shift(0, 0, 0, 1, 4));
        for (int i = 0; i < changes.size(); i++) {
            WoundEggs one = some();
            changes.get(i).accept(one);
            Due.isTrue("change " + i + " shows", !all(one, false).equals(all(some(), false)));
        }
        WoundEggs one = some();
        one.image();
        Due.isTrue("image() shows", !all(one, true).equals(all(some(), true)));
    }

    // ---- refusals

    private static void withoutEggs() {
        refused(UnchangedTest::empty, "of", NONE, x -> x.of(0, 0));
        refused(UnchangedTest::empty, "set", NONE, x -> x.set(0, 0, 1));
        refused(UnchangedTest::empty, "smash", NONE, x -> x.smash(0, true));
        refused(UnchangedTest::empty, "row", NONE, x -> x.row(0, 0, 0));
        refused(UnchangedTest::empty, "store", -10, x -> x.store());
        refused(UnchangedTest::empty, "on", NONE, x -> x.on(0, 10));
        refused(UnchangedTest::empty, "often", NO, x -> x.often(0, 0));
        refused(UnchangedTest::empty, "together", NO, x -> x.together(1, 0));
        refused(UnchangedTest::empty, "hear", NONE, x -> x.hear(0, 0, true));
        refused(UnchangedTest::empty, "can", NONE, x -> x.can(0, 0, 0));
        refused(UnchangedTest::empty, "mean", NO, x -> x.mean(0, 0));
        refused(UnchangedTest::empty, "plan", NONE, x -> x.plan(1, 0));
        refused(UnchangedTest::empty, "book", NONE, x -> x.book(0, 0));
        refused(UnchangedTest::empty, "undo", STATE, x -> x.undo());
        refused(UnchangedTest::empty, "act", 0, x -> x.act(0, 0, 5));
        refused(UnchangedTest::empty, "trace", NONE, x -> x.trace(0));
        refused(UnchangedTest::empty, "taken", NOTHING, x -> x.taken(0, 0));
        refused(UnchangedTest::empty, "item", NOTHING, x -> x.item(0, 0, 1));
        refused(UnchangedTest::empty, "read", NO, x -> x.read(0, 0));
        refused(UnchangedTest::empty, "shift", NOTHING, x -> x.shift(0, 0, 1, 0, 0));
    }

    private static void eggsRefused() {
        Made some = UnchangedTest::some;
        refused(some, "egg, kind", NONE, x -> x.egg(7, 1, 2, 3));
        refused(some, "egg, kind", NONE, x -> x.egg(-1, 1, 2, 3));
        refused(some, "egg, v", BAD, x -> x.egg(6, 10, 2, 3));
        refused(some, "egg, period", BAD, x -> x.egg(6, 1, 31, 3));
        refused(some, "egg, setting", BAD, x -> x.egg(6, 1, 2, 30));
        refused(some, "of, egg", NONE, x -> x.of(3, 0));
        refused(some, "of, what", NONE, x -> x.of(0, 10));
        refused(some, "set, egg", NONE, x -> x.set(3, 0, 1));
        refused(some, "set, what", NONE, x -> x.set(0, 2, 1));
        refused(some, "set, PERIOD", BAD, x -> x.set(0, 0, 0));
        refused(some, "set, PERIOD", BAD, x -> x.set(0, 0, 31));
        refused(some, "set, SETTING", BAD, x -> x.set(0, 1, -1));
        refused(some, "set, SETTING", BAD, x -> x.set(0, 1, 30));
        refused(some, "smash", NONE, x -> x.smash(3, true));
        refused(some, "smash", NONE, x -> x.smash(-1, false));
        refused(some, "listen", BAD, x -> x.listen(-1));
        refused(some, "listen", BAD, x -> x.listen(128));
        refused(some, "row, egg", NONE, x -> x.row(3, 0, 1));
        refused(some, "row, part", NONE, x -> x.row(0, 4, 1));
        refused(some, "row, n", BAD, x -> x.row(0, 0, 10));
        refused(some, "row, KIND", STATE, x -> x.row(1, 0, 1));
        refused(some, "row, KIND", STATE, x -> x.row(2, 3, 9));
    }

    private static void textsRefused() {
        Made some = UnchangedTest::some;
        refused(some, "feed", BAD, x -> x.feed(-1));
        refused(some, "feed", BAD, x -> x.feed(128));
        refused(some, "feed", BAD, x -> x.feed('a' + 256));
        refused(some, "feed", BAD, x -> x.feed(MIN));
        refused(some, "told", NONE, x -> x.told(7));
        refused(some, "told", NONE, x -> x.told(-1));
        refused(some, "count", BAD, x -> x.count(7));
    }

    private static void daysRefused() {
        Made some = UnchangedTest::some;
        refused(some, "pass", BAD, x -> x.pass(-1));
        refused(some, "pass", BAD, x -> x.pass(61));
        refused(some, "pass", BAD, x -> x.pass(MAX));
        refused(some, "on, what", NONE, x -> x.on(20, 3));
        refused(some, "on, what", NONE, x -> x.on(20, 13));
        refused(some, "on, n", BAD, x -> x.on(61, 0));
        refused(some, "often, egg", NO, x -> x.often(3, 5));
        refused(some, "often, n", NO, x -> x.often(0, -1));
        refused(some, "together, set", NO, x -> x.together(8, 0));
        refused(some, "together, what", NO, x -> x.together(1, 2));
        refused(some, "busy, what", NONE, x -> x.busy(1, 3));
        refused(some, "busy, n", BAD, x -> x.busy(0, 0));
        refused(some, "odds", NO, x -> x.odds(2));
        refused(some, "mean, n", NO, x -> x.mean(61, 0));
        refused(some, "mean, part", NO, x -> x.mean(1, 2));
    }

    private static void heardRefused() {
        Made some = UnchangedTest::some;
        refused(some, "hear, egg", NONE, x -> x.hear(3, 0, true));
        refused(some, "hear, egg", NONE, x -> x.hear(-2, 0, true));
        refused(some, "hear, n", BAD, x -> x.hear(0, 61, true));
        refused(some, "hear, n", BAD, x -> x.hear(0, -1, true));
        refused(some, "can, egg", NONE, x -> x.can(3, 0, 0));
        refused(some, "can, which", NONE, x -> x.can(0, 3, 0));
        refused(some, "can, what", NONE, x -> x.can(0, 0, 2));
    }

    private static void plansRefused() {
        Made some = UnchangedTest::some;
        refused(some, "plan, what", NONE, x -> x.plan(4, 0));
        refused(some, "plan, what", NONE, x -> x.plan(-2, 0));
        refused(some, "plan, egg", NONE, x -> x.plan(1, 3));
        refused(some, "plan, egg", NONE, x -> x.plan(2, -1));
        refused(some, "plan, bits", BAD, x -> x.plan(3, 128));
        refused(some, "plan, bits", BAD, x -> x.plan(3, -1));
        refused(some, "ends", NONE, x -> x.ends(2));
        refused(some, "ends", NONE, x -> x.ends(-1));
    }

    private static void booksRefused() {
        Made some = UnchangedTest::some;
        refused(some, "book, egg", NONE, x -> x.book(3, 0));
        refused(some, "book, egg", NONE, x -> x.book(-2, 0));
        refused(some, "book, went", BAD, x -> x.book(0, 10000));
        refused(some, "book, went", BAD, x -> x.book(0, -1));
    }

    private static void tapesRefused() {
        Made some = UnchangedTest::some;
        refused(some, "judge, tape", NONE, x -> x.judge(6, 0));
        refused(some, "judge, CAST", CAST, x -> x.judge(2, 0));
        refused(some, "tape, tape", NONE, x -> x.tape(6, 0, 1));
        refused(some, "tape, sort", BAD, x -> x.tape(0, 5, 1));
        refused(some, "tape, sort", BAD, x -> x.tape(0, -2, 1));
        refused(some, "tape, n", BAD, x -> x.tape(0, 3, 61));
        refused(some, "tape, SIZE", SIZE, x -> x.tape(0, 3, -1));
        refused(some, "tape, n", BAD, x -> x.tape(5, 3, 61));
        refused(some, "tape, SIZE", SIZE, x -> x.tape(5, 3, -1));
        refused(some, "item, tape", NONE, x -> x.item(6, 0, 9));
        refused(some, "item, NOTHING", NOTHING, x -> x.item(3, 0, 9));
        refused(some, "item, PLACE", PLACE, x -> x.item(0, 5, 9));
        refused(some, "item, PLACE", PLACE, x -> x.item(0, -1, 9));
        refused(some, "read, tape", NO, x -> x.read(6, 0));
        refused(some, "read, NOTHING", NO, x -> x.read(3, 0));
        refused(some, "read, PLACE", NO, x -> x.read(0, 5));
    }

    private static void shiftsRefused() {
        Made some = UnchangedTest::some;
        refused(some, "shift, tape", NONE, x -> x.shift(6, 0, 0, 0, 1));
        refused(some, "shift, tape", NONE, x -> x.shift(0, 0, -1, 0, 1));
        refused(some, "shift, NOTHING", NOTHING, x -> x.shift(0, 0, 3, 0, 1));
        refused(some, "shift, NOTHING", NOTHING, x -> x.shift(3, 0, 0, 0, 1));
        refused(some, "shift, CAST", CAST, x -> x.shift(0, 0, 2, 0, 1));
        refused(some, "shift, n", PLACE, x -> x.shift(0, 1, 1, 1, -1));
        refused(some, "shift, i", PLACE, x -> x.shift(0, -1, 1, 0, 1));
        refused(some, "shift, j", PLACE, x -> x.shift(0, 0, 1, -1, 1));
        refused(some, "shift, the one's end", PLACE, x -> x.shift(0, 4, 1, 0, 2));
        refused(some, "shift, the other's end", PLACE, x -> x.shift(0, 0, 1, 2, 2));
        refused(some, "shift, the same one's end", PLACE, x -> x.shift(0, 0, 0, 1, 5));
    }

    /** An act that is refused leaves no TRACE; all else stays. */
    private static void actsRefused() {
        Made traceless = () -> {
            WoundEggs x = some();
            x.act(0, 3, 5);
            return x;
        };
        Due.is("no TRACE", traceless.make().count(6), 0);
        refused(traceless, "act, egg", 0, x -> x.act(3, 0, 5));
        refused(traceless, "act, egg", 0, x -> x.act(-1, 0, 5));
        refused(traceless, "act, act", 0, x -> x.act(0, -1, 5));
        refused(UnchangedTest::some, "trace", NONE, x -> x.trace(12));
        refused(UnchangedTest::some, "trace", NONE, x -> x.trace(-1));
        refused(UnchangedTest::some, "taken, k", BAD, x -> x.taken(0, 7));
        refused(UnchangedTest::some, "taken, egg", NOTHING, x -> x.taken(3, 0));
        refused(UnchangedTest::some, "taken, CAST", CAST, x -> x.taken(0, 4));
    }

    private static void allFull() {
        Made full = UnchangedTest::full;
        refused(full, "egg", FULL, x -> x.egg(0, 1, 2, 3));
        refused(full, "store", FULL, x -> x.store());
        refused(full, "hear", FULL, x -> x.hear(0, 1, true));
        refused(full, "plan, a DAY", FULL, x -> x.plan(0, 0));
        refused(full, "plan, BROKEN", FULL, x -> x.plan(1, 0));
        refused(full, "plan, LISTENING", FULL, x -> x.plan(3, 0));
        refused(full, "book", FULL, x -> x.book(0, 1));
        refused(full, "egg, BAD", BAD, x -> x.egg(0, 1, 0, 3));
        refused(full, "hear, BAD", BAD, x -> x.hear(0, 61, true));
        refused(full, "plan, BAD", BAD, x -> x.plan(3, 128));
        refused(full, "book, BAD", BAD, x -> x.book(0, 10000));
    }

    private static void textIsFull() {
        Made longText = UnchangedTest::longText;
        Due.is("bytes", longText().count(5), 100);
        refused(longText, "feed", FULL, x -> x.feed('1'));
        refused(longText, "feed", FULL, x -> x.feed(0));
        refused(longText, "feed", BAD, x -> x.feed(128));
        WoundEggs x = longText();
        x.feed(';');
        Due.is("it is a STORE still", x.store(), 0);
        Due.is("REST", x.of(0, 8), 4);
    }

    // ---- what is asked

    private static void asked() {
        for (Made made : List.<Made>of(UnchangedTest::some, UnchangedTest::full)) {
            for (int i = 0; i <= 9; i++) {
                int what = i;
                unchanged(made, "of", x -> x.of(0, what));
                unchanged(made, "told", x -> x.told(what));
                unchanged(made, "on", x -> x.on(60, what > 2 ? what + 7 : what));
                unchanged(made, "often", x -> x.often(what % 3, 1000000000L - what));
                unchanged(made, "together", x -> x.together(what, what & 1));
                unchanged(made, "busy", x -> x.busy(60 - what, what % 3));
                unchanged(made, "can", x -> x.can(what / 3, what % 3, what & 1));
                unchanged(made, "odds", x -> x.odds(what & 1));
                unchanged(made, "mean", x -> x.mean(60, what & 1));
                unchanged(made, "ends", x -> x.ends(what & 1));
                unchanged(made, "looked", x -> x.looked());
                unchanged(made, "judge", x -> x.judge(what & 1, what / 2));
                unchanged(made, "trace", x -> x.trace(what));
                unchanged(made, "taken", x -> x.taken(what / 3, what % 7));
                unchanged(made, "count", x -> x.count(what));
                unchanged(made, "read", x -> x.read(what % 3, what));
            }
        }
    }

    private static void askedOfNoEggs() {
        Made empty = UnchangedTest::empty;
        unchanged(empty, "told", x -> x.told(4));
        unchanged(empty, "on", x -> x.on(60, 0));
        unchanged(empty, "together", x -> x.together(0, 0));
        unchanged(empty, "busy", x -> x.busy(60, 0));
        unchanged(empty, "odds", x -> x.odds(0));
        unchanged(empty, "ends", x -> x.ends(0));
        unchanged(empty, "looked", x -> x.looked());
        unchanged(empty, "judge", x -> x.judge(0, 0));
    }

    /** A FAULT empties THE TEXT, and changes nothing else. */
    private static void faults() {
        Made bare = () -> {
            WoundEggs x = some();
            x.store();
            return x;
        };
        for (String text : List.of("", "x", "all 7;late 9 p<9;", "early 9 v<9;all 100")) {
            unchanged(bare, "a FAULT of " + text, x -> {
                feed(x, text);
                Due.isTrue("a FAULT of " + text, x.store() <= -10);
            });
        }
    }

    /** What comes back to what it was, and what goes without a change. */
    private static void withoutChange() {
        Made some = UnchangedTest::some;
        unchanged(some, "pass(0)", x -> x.pass(0));
        unchanged(some, "set twice", x -> x.set(0, 0, x.set(0, 0, 30)));
        unchanged(some, "set twice", x -> x.set(1, 1, x.set(1, 1, 29)));
        unchanged(some, "smash twice", x -> x.smash(0, x.smash(0, true) == 1));
        unchanged(some, "listen twice", x -> x.listen(x.listen(127)));
        unchanged(some, "row twice", x -> x.row(0, 3, x.row(0, 3, 8)));
        unchanged(some, "shift of none", x -> x.shift(0, 5, 1, 3, 0));
        unchanged(some, "shift onto itself", x -> x.shift(0, 0, 0, 0, 5));
        unchanged(some, "nothing becomes nothing", x -> x.tape(5, -1, 7));
    }
}
