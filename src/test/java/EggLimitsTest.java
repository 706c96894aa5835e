/** The limits and refusals of promises 1 to 10, and of the first part of the terms, one by one. */
public final class EggLimitsTest {
    private static final int NONE = -1, BAD = -2, STATE = -3, FULL = -4;
    private static final int MIN = Integer.MIN_VALUE, MAX = Integer.MAX_VALUE;

    public static void main(String[] args) {
        newObject();
        objectsShareNothing();
        egg();
        eggAnswersTheFirstNamed();
        ofNoSuch();
        leastTurns();
        mostTurns();
        restsWrap();
        farSums();
        next();
        set();
        setAnswersTheFirstNamed();
        smash();
        listen();
        weekWraps();
        row();
        rowAnswersTheFirstNamed();
        rowByPeriod();
        told();
        toldOfAll();
        quiet();
        Due.end();
    }

    /** So many EGGS, all of KIND 0, v 0, PERIOD 2, SETTING 0. */
    private static WoundEggs eggs(int many) {
        WoundEggs x = new WoundEggs();
        for (int e = 0; e < many; e++) {
            Due.is("egg " + e, x.egg(0, 0, 2, 0), e);
        }
        return x;
    }

    // ---- promise 1

    private static void newObject() {
        WoundEggs x = new WoundEggs();
        Due.is("no EGGS", x.count(0), 0);
        Due.refuses("no EGGS", NONE, e -> x.of(e, 0), -1, 0, 1, 5, 6);
        Due.is("no STORE", x.count(1), 0);
        Due.is("no STORE, ALL", x.told(1), 0);
        Due.is("DAY 0", x.told(0), 0);
        Due.is("LISTENING 127", x.told(2), 127);
        Due.is("nothing HEARD", x.count(2), 0);
        Due.is("nothing in the PLAN", x.count(3), 0);
        Due.is("nothing in the BOOK", x.count(4), 0);
        Due.is("THE TEXT is empty", x.count(5), 0);
        Due.is("no TRACE", x.count(6), 0);
        Due.is("no TRACE", x.trace(0), NONE);
        Due.is("no IMAGE", x.undo(), STATE);
        for (int tape = 0; tape <= 5; tape++) {
            Due.is("TAPE " + tape + " holds nothing", x.item(tape, 0, 1), -11);
            Due.is("TAPE " + tape + " holds nothing", x.read(tape, 0), WoundEggs.NO);
        }
        Due.is("the first sign", x.feed('a'), 1);
        Due.is("the first EGG", x.egg(6, 0, 1, 0), 0);
        for (int what = 4; what <= 6; what++) {
            Due.is("a new EGG's " + what, x.of(0, what), 0);
        }
        for (int part = 0; part <= 3; part++) {
            Due.is("a new EGG's ROW at " + part, x.row(0, part, 1), 0);
        }
        Due.is("the first STORE", Due.store(new WoundEggs(), "all 1"), 0);
    }

    private static void objectsShareNothing() {
        WoundEggs x = eggs(2);
        Due.store(x, "all 1");
        x.pass(7);
        x.listen(3);
        x.hear(0, 0, true);
        x.plan(0, 0);
        x.book(0, 0);
        x.image();
        x.act(0, 2, 0);
        x.tape(0, 3, 3);
        x.feed('a');
        newObject();
        Due.is("DAY of the other", x.told(0), 7);
        Due.is("EGGS of the other", x.count(0), 2);
    }

    // ---- promise 2

    private static void egg() {
        Due.edges("egg, NONE: kind", NONE, n -> new WoundEggs().egg(n, 0, 1, 0), 0, 6);
        Due.edges("egg, BAD: v", BAD, n -> new WoundEggs().egg(0, n, 1, 0), 0, 9);
        Due.edges("egg, BAD: period", BAD, n -> new WoundEggs().egg(0, 0, n, 0), 1, 30);
        Due.edges("egg, BAD: setting", BAD, n -> new WoundEggs().egg(0, 0, 1, n), 0, 29);
        for (int kind = 0; kind <= 6; kind++) {
            WoundEggs x = new WoundEggs();
            Due.is("the least", x.egg(kind, 0, 1, 0), 0);
            Due.is("the most", x.egg(kind, 9, 30, 29), 1);
            int[] least = {kind, 0, 1, 0};
            int[] most = {kind, 9, 30, 29};
            for (int what = 0; what <= 3; what++) {
                Due.is("of the least, " + what, x.of(0, what), least[what]);
                Due.is("of the most, " + what, x.of(1, what), most[what]);
            }
        }
        WoundEggs x = eggs(6);
        Due.is("egg, FULL: 6", x.egg(0, 0, 1, 0), FULL);
        Due.is("EGGS are 6", x.count(0), 6);
        Due.is("there is no EGG 6", x.of(6, 0), NONE);
    }

    private static void eggAnswersTheFirstNamed() {
        WoundEggs x = eggs(6);
        Due.is("kind ahead of v", x.egg(7, 10, 0, 30), NONE);
        Due.is("kind ahead of FULL", x.egg(-1, 0, 1, 0), NONE);
        Due.is("v ahead of FULL", x.egg(0, 10, 1, 0), BAD);
        Due.is("period ahead of FULL", x.egg(0, 0, 0, 0), BAD);
        Due.is("setting ahead of FULL", x.egg(0, 0, 1, 30), BAD);
        WoundEggs y = eggs(5);
        Due.is("refused ones take no number", y.egg(7, 0, 1, 0), NONE);
        Due.is("refused ones take no number", y.egg(0, 0, 31, 0), BAD);
        Due.is("the sixth", y.egg(6, 9, 30, 29), 5);
    }

    // ---- promise 3

    private static void ofNoSuch() {
        for (int many = 1; many <= 6; many++) {
            WoundEggs x = eggs(many);
            Due.edges("of, NONE: egg of " + many, NONE, e -> x.of(e, 0), 0, many - 1);
        }
        WoundEggs x = eggs(1);
        Due.edges("of, NONE: what", NONE, what -> x.of(0, what), 0, 9);
        Due.is("of, neither", x.of(1, 10), NONE);
    }

    private static void turn(int kind, int v, int period, int dueTurn, int dueRest) {
        WoundEggs x = new WoundEggs();
        x.egg(kind, v, period, 29);
        if (kind == 6) {
            x.row(0, period % 4, 9);
        }
        String of = "KIND " + kind + ", v " + v + ", PERIOD " + period;
        Due.is(of + ": TURN", x.of(0, 7), dueTurn);
        Due.is(of + ": REST", x.of(0, 8), dueRest);
        Due.is(of + ": NEXT", x.of(0, 9), dueRest);
    }

    private static void leastTurns() {
        turn(0, 0, 1, 1, 0);
        turn(1, 0, 1, 1, 0);
        turn(2, 0, 1, 2, 1);
        turn(3, 0, 1, 1, 0);
        turn(4, 0, 1, 1, 0);
        turn(5, 0, 1, 3, 2);
        turn(6, 0, 1, 1, 0);
    }

    private static void mostTurns() {
        turn(0, 9, 30, 30, 29);
        turn(1, 9, 30, 30, 8);
        turn(2, 9, 30, 60, 29);
        turn(3, 9, 30, 39, 29);
        turn(4, 9, 30, 30, 21);
        turn(5, 9, 30, 61, 29);
        turn(6, 9, 30, 39, 38);
    }

    /** REST of an EGG with v 3, PERIOD 5, and a ROW of 2 at 1, by a SUM. */
    private static void rest(int kind, int sum, int due) {
        WoundEggs x = new WoundEggs();
        x.egg(kind, 3, 5, Math.max(sum, 0));
        if (kind == 6) {
            x.row(0, 1, 2);
        }
        if (sum < 0) {
            Due.is("early", Due.store(x, "early " + -sum + " p=0"), 0);
        }
        Due.is("REST of KIND " + kind + " by the SUM " + sum, x.of(0, 8), due);
        x.pass(due);
        Due.is("NEXT then", x.of(0, 9), 0);
    }

    private static void rests(int kind, int[] sums, int... dues) {
        for (int i = 0; i < sums.length; i++) {
            rest(kind, sums[i], dues[i]);
        }
    }

    /** SUMS about a whole TURN, about 0, about a TURN below 0. */
    private static void restsWrap() {
        rests(0, new int[] {4, 5, 6, 0, -1, -4, -5, -6}, 4, 0, 1, 0, 4, 1, 0, 4);
        rests(1, new int[] {1, 2, 3, 0, -3, -4, -8, -9}, 4, 0, 1, 3, 0, 4, 0, 4);
        rests(2, new int[] {9, 10, 11, 0, -1, -9, -10, -11}, 9, 0, 1, 0, 9, 1, 0, 9);
        rests(3, new int[] {7, 8, 9, 0, -1, -7, -8, -9}, 7, 0, 1, 0, 7, 1, 0, 7);
        rests(4, new int[] {1, 2, 3, 0, -3, -4, -8, -9}, 0, 4, 3, 1, 4, 0, 4, 0);
        rests(5, new int[] {10, 11, 12, 0, -1, -10, -11, -12}, 10, 0, 1, 0, 10, 1, 0, 10);
        rests(6, new int[] {5, 6, 7, 0, -2, -3, -10, -11}, 7, 0, 1, 2, 0, 7, 0, 7);
    }

    private static void farSums() {
        WoundEggs x = new WoundEggs();
        x.egg(0, 0, 30, 29);
        Due.is("seven early", Due.store(x, "early 99 p=0" + ";early 99 p=0".repeat(6)), 0);
        Due.is("REST of -664", x.of(0, 8), 26);
        Due.is("eight late", Due.store(x, "late 99 p=0" + ";late 99 p=0".repeat(7)), 1);
        Due.is("REST of 821", x.of(0, 8), 11);
        Due.is("all 99", Due.store(x, "all 99"), 2);
        Due.is("REST of 128", x.of(0, 8), 8);
        Due.is("ALL", x.told(1), 99);
        Due.is("all 0", Due.store(x, "all 0"), 3);
        Due.is("REST of 29", x.of(0, 8), 29);
        Due.is("ALL", x.told(1), 0);
    }

    private static void next() {
        WoundEggs x = new WoundEggs();
        x.egg(5, 0, 30, 29);
        Due.is("all 31", Due.store(x, "all 31"), 0);
        Due.is("NEXT, the last of a TURN", x.of(0, 9), 60);
        x.pass(59);
        Due.is("NEXT, tomorrow", x.of(0, 9), 1);
        x.pass(1);
        Due.is("NEXT, on this DAY", x.of(0, 9), 0);
        x.pass(1);
        Due.is("NEXT, the day behind", x.of(0, 9), 60);
        x.smash(0, true);
        Due.is("NEXT, it is BROKEN", x.of(0, 9), -5);
        x.smash(0, false);
        Due.is("NEXT, it is not", x.of(0, 9), 60);
    }

    // ---- promises 4 to 6

    private static void set() {
        Due.edges("set, BAD: a PERIOD", BAD, n -> eggs(1).set(0, 0, n), 1, 30);
        Due.edges("set, BAD: a SETTING", BAD, n -> eggs(1).set(0, 1, n), 0, 29);
        Due.edges("set, NONE: what", NONE, what -> eggs(1).set(0, what, 1), 0, 1);
        for (int many = 1; many <= 6; many++) {
            WoundEggs x = eggs(many);
            Due.edges("set, NONE: egg of " + many, NONE, e -> x.set(e, 1, 1), 0, many - 1);
        }
        WoundEggs x = eggs(1);
        int was = 2;
        for (int n : new int[] {1, 30, 15}) {
            Due.is("PERIOD becomes " + n, x.set(0, 0, n), was);
            Due.is("PERIOD is", x.of(0, 2), n);
            was = n;
        }
        was = 0;
        for (int n : new int[] {29, 0, 15}) {
            Due.is("SETTING becomes " + n, x.set(0, 1, n), was);
            Due.is("SETTING is", x.of(0, 3), n);
            was = n;
        }
        Due.is("PERIOD stays", x.of(0, 2), 15);
    }

    private static void setAnswersTheFirstNamed() {
        WoundEggs x = eggs(1);
        Due.is("egg ahead of n", x.set(1, 0, 0), NONE);
        Due.is("what ahead of n", x.set(0, 2, -1), NONE);
        Due.is("no EGGS", new WoundEggs().set(0, 0, 1), NONE);
    }

    private static void smash() {
        for (int many = 0; many <= 6; many++) {
            WoundEggs x = eggs(many);
            Due.refuses("smash, NONE: egg of " + many, NONE, e -> x.smash(e, true), -1, many, MIN,
                MAX);
            for (int e = 0; e < many; e++) {
                Due.is("it was not", x.smash(e, false), 0);
                Due.is("it was not", x.smash(e, true), 0);
                Due.is("it was", x.smash(e, true), 1);
                Due.is("it is", x.of(e, 4), 1);
                Due.is("it was", x.smash(e, false), 1);
                Due.is("it is not", x.of(e, 4), 0);
            }
        }
    }

    private static void listen() {
        Due.edges("listen, BAD", BAD, bits -> new WoundEggs().listen(bits), 0, 127);
        WoundEggs x = new WoundEggs();
        Due.is("none of the week", x.listen(0), 127);
        Due.is("all of the week", x.listen(127), 0);
        Due.is("bits", x.told(2), 127);
    }

    /** MISSED of an EGG that goes off each day, by each bit of the week, two weeks long. */
    private static void weekWraps() {
        for (int bit = 0; bit <= 6; bit++) {
            WoundEggs x = new WoundEggs();
            x.egg(0, 0, 1, 0);
            x.listen(1 << bit);
            int missed = 0;
            for (int day = 0; day < 14; day++) {
                x.pass(1);
                missed += day == bit || day == bit + 7 ? 0 : 1;
                Due.is("MISSED behind DAY " + day + " by bit " + bit, x.of(0, 6), missed);
                Due.is("WENT behind DAY " + day, x.of(0, 5), day + 1);
            }
        }
    }

    // ---- promise 7

    private static WoundEggs toldOne() {
        WoundEggs x = new WoundEggs();
        x.egg(6, 0, 30, 0);
        return x;
    }

    private static void row() {
        Due.edges("row, NONE: part", NONE, part -> toldOne().row(0, part, 0), 0, 3);
        Due.edges("row, BAD: n", BAD, n -> toldOne().row(0, 0, n), 0, 9);
        Due.edges("row, NONE: egg", NONE, e -> toldOne().row(e, 0, 0), 0, 0);
        for (int kind = 0; kind <= 6; kind++) {
            WoundEggs x = new WoundEggs();
            x.egg(kind, 0, 1, 0);
            Due.is("row of KIND " + kind, x.row(0, 3, 9), kind == 6 ? 0 : STATE);
        }
        WoundEggs x = toldOne();
        for (int part = 0; part <= 3; part++) {
            Due.is("it becomes 9", x.row(0, part, 9), 0);
            Due.is("it becomes " + part, x.row(0, part, part), 9);
        }
        for (int part = 0; part <= 3; part++) {
            Due.is("the parts are their own", x.row(0, part, 0), part);
        }
    }

    private static void rowAnswersTheFirstNamed() {
        WoundEggs x = eggs(1);
        Due.is("egg ahead of n", x.row(1, 0, 10), NONE);
        Due.is("part ahead of n", x.row(0, 4, 10), NONE);
        Due.is("part ahead of the KIND", x.row(0, -1, 0), NONE);
        Due.is("n ahead of the KIND", x.row(0, 0, 10), BAD);
        Due.is("n ahead of the KIND", x.row(0, 3, -1), BAD);
    }

    private static void rowByPeriod() {
        WoundEggs x = toldOne();
        for (int part = 0; part <= 3; part++) {
            x.row(0, part, part + 5);
        }
        int[] periods = {30, 29, 28, 27, 26, 13, 12, 11};
        int[] dues = {7, 6, 5, 8, 7, 6, 5, 8};
        for (int i = 0; i < periods.length; i++) {
            x.set(0, 0, periods[i]);
            Due.is("REST by the ROW at PERIOD " + periods[i], x.of(0, 8), dues[i]);
        }
        int[] least = {0, 1, 2, 1};
        for (int period = 1; period <= 4; period++) {
            x.set(0, 0, period);
            Due.is("REST by the ROW at PERIOD " + period, x.of(0, 8), least[period - 1]);
        }
    }

    // ---- promise 10

    private static void told() {
        WoundEggs x = eggs(1);
        Due.edges("told, NONE", NONE, what -> x.told(what), 0, 6);
    }

    private static void toldOfAll() {
        WoundEggs x = new WoundEggs();
        Due.is("none of no EGGS", x.told(3), 0);
        for (int e = 0; e < 6; e++) {
            x.egg(e, 0, 2, 0);
        }
        // A PRIOR's REST is 1; a BAILIFF's TURN is 5.
        Due.is("on DAY 0", x.told(3), 1 + 2 + 4 + 8 + 32);
        x.listen(0);
        x.pass(1);
        Due.is("on DAY 1", x.told(3), 16);
        Due.is("WENT of all", x.told(5), 5);
        Due.is("MISSED of all", x.told(6), 5);
        x.listen(127);
        x.pass(1);
        Due.is("WENT of all", x.told(5), 6);
        Due.is("MISSED of all", x.told(6), 5);
        Due.is("on DAY 2", x.told(3), 1 + 2 + 8);
        for (int e = 0; e < 6; e++) {
            x.smash(e, true);
        }
        Due.is("none, all are BROKEN", x.told(3), 0);
        Due.is("WENT of BROKEN ones, too", x.told(5), 6);
        Due.is("MISSED of BROKEN ones, too", x.told(6), 5);
    }

    private static void quiet() {
        WoundEggs x = new WoundEggs();
        Due.is("QUIET of no EGGS", x.told(4), 0);
        x.egg(0, 0, 1, 0);
        Due.is("never QUIET", x.told(4), -5);
        x.smash(0, true);
        Due.is("QUIET, all are BROKEN", x.told(4), 0);
        // Days 1 to 63 are taken: odd ones, 2 modulo 4, 4 modulo 8, 8 modulo 16, 16 modulo 32, 32.
        WoundEggs y = new WoundEggs();
        y.egg(0, 0, 2, 1);
        y.egg(0, 0, 4, 2);
        y.egg(0, 0, 8, 4);
        y.egg(0, 0, 16, 8);
        y.egg(2, 0, 16, 16);
        y.egg(2, 0, 30, 29);
        Due.is("one is 3 late", Due.store(y, "late 3 p=5"), 0);
        Due.is("QUIET on this DAY", y.told(4), 0);
        y.pass(1);
        Due.is("QUIET in 63 days", y.told(4), 63);
        y.pass(60);
        Due.is("QUIET in 3 days", y.told(4), 3);
        y.pass(2);
        Due.is("QUIET tomorrow", y.told(4), 1);
        y.pass(1);
        Due.is("QUIET on this DAY", y.told(4), 0);
    }
}
