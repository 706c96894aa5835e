/** Promises 20 to 23: plans and books. */
public final class PlansTest {
    public static void main(String[] args) {
        planning();
        ends();
        endsByTests();
        booking();
        Due.end();
    }

    private static void planning() {
        WoundEggs x = new WoundEggs();
        Due.is("plan(1, 0), no EGG", x.plan(1, 0), -1);
        x.egg(0, 0, 1, 0);
        Due.is("plan(4, 0)", x.plan(4, 0), -1);
        Due.is("plan(-2, 0)", x.plan(-2, 0), -1);
        Due.is("plan(1, 1)", x.plan(1, 1), -1);
        Due.is("plan(2, -1)", x.plan(2, -1), -1);
        Due.is("plan(3, 128)", x.plan(3, 128), -2);
        Due.is("plan(3, -1)", x.plan(3, -1), -2);
        Due.is("plan(0, 999)", x.plan(0, 999), 1);
        Due.is("plan(0, -999)", x.plan(0, -999), 2);
        Due.is("plan(1, 0)", x.plan(1, 0), 3);
        Due.is("plan(2, 0)", x.plan(2, 0), 4);
        Due.is("plan(3, 127)", x.plan(3, 127), 5);
        Due.is("plan(3, 0)", x.plan(3, 0), 6);
        for (int i = 7; i <= 10; i++) {
            Due.is("plan " + i, x.plan(0, 0), i);
        }
        Due.is("an eleventh", x.plan(0, 0), -4);
        Due.is("an eleventh, BAD", x.plan(3, 128), -2);
        Due.is("an eleventh, NONE", x.plan(1, 1), -1);
        Due.is("count(3)", x.count(3), 10);
        Due.is("ends(0)", x.ends(0), 6);
        Due.is("ends(1)", x.ends(1), 4);
        Due.is("ends(2)", x.ends(2), -1);
        Due.is("ends(-1)", x.ends(-1), -1);
        Due.is("it is empty then", x.plan(-1, 99), 0);
        Due.is("count(3)", x.count(3), 0);
        Due.is("ends(0)", x.ends(0), 0);
    }

    private static void ends() {
        WoundEggs x = new WoundEggs();
        x.egg(0, 0, 1, 0);
        x.egg(0, 0, 2, 0);
        x.pass(6);
        x.listen(1);
        x.smash(1, true);
        Due.is("ends(0), no plan", x.ends(0), 9);
        x.plan(2, 1);
        x.plan(0, 0);
        x.plan(0, 0);
        x.plan(1, 0);
        x.plan(3, 0);
        x.plan(0, 0);
        Due.is("ends(0): 2 on day 6, 1 on 7, 1 on 8", x.ends(0), 13);
        Due.is("ends(1): all but those on day 7", x.ends(1), 3);
        Due.is("told(0) stays", x.told(0), 6);
        Due.is("told(2) stays", x.told(2), 1);
        Due.is("told(5) stays", x.told(5), 9);
        Due.is("of(0, 4) stays", x.of(0, 4), 0);
        Due.is("of(1, 4) stays", x.of(1, 4), 1);
    }

    private static void endsByTests() {
        // That it is BROKEN changes what it goes by behind that.
        WoundEggs x = new WoundEggs();
        x.egg(0, 0, 3, 0);
        Due.is("store", Due.store(x, "late 1 b=1;late 1 p=0"), 0);
        x.plan(0, 0);
        x.plan(0, 0);
        Due.is("it goes off on day 1", x.ends(0), 1);
        x.plan(-1, 0);
        x.smash(0, true);
        x.plan(2, 0);
        x.plan(0, 0);
        x.plan(1, 0);
        x.plan(2, 0);
        x.plan(0, 0);
        Due.is("whole again, it goes off on day 1", x.ends(0), 1);
    }

    private static void booking() {
        WoundEggs x = new WoundEggs();
        Due.is("looked, nothing", x.looked(), -5);
        Due.is("book(0, 0), no EGG", x.book(0, 10000), -1);
        x.egg(0, 0, 2, 0);
        x.egg(0, 0, 3, 0);
        Due.is("book(2, 0)", x.book(2, 0), -1);
        Due.is("book(-2, 0)", x.book(-2, 0), -1);
        Due.is("book(0, -1)", x.book(0, -1), -2);
        Due.is("book(0, 10000)", x.book(0, 10000), -2);
        Due.is("book(0, 0)", x.book(0, 0), 1);
        Due.is("book(1, 0)", x.book(1, 0), 2);
        Due.is("looked", x.looked(), -5);
        Due.is("book(1, 9999)", x.book(1, 9999), 3);
        Due.is("looked, the third", x.looked(), 2);
        x.pass(1);
        Due.is("looked, the first", x.looked(), 0);
        Due.is("it is empty then", x.book(-1, 10000), 0);
        Due.is("looked, none", x.looked(), -5);
        for (int i = 1; i <= 8; i++) {
            Due.is("book " + i, x.book(i % 2, i == 8 ? 0 : 1), i);
        }
        Due.is("a ninth", x.book(0, 0), -4);
        Due.is("a ninth, BAD", x.book(0, -1), -2);
        Due.is("count(4)", x.count(4), 8);
        Due.is("looked, the last", x.looked(), 7);
    }
}
