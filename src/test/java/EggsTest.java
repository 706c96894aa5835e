/** Promises 1 to 10: eggs and stores. */
public final class EggsTest {
    public static void main(String[] args) {
        newObject();
        eggs();
        turnsAndRests();
        negativeSums();
        setting();
        smashing();
        listening();
        rows();
        feeding();
        storing();
        faults();
        manyFaults();
        tests();
        allAndSums();
        telling();
        Due.end();
    }

    private static void newObject() {
        WoundEggs x = new WoundEggs();
        for (int what = 0; what <= 6; what++) {
            Due.is("new: count(" + what + ")", x.count(what), 0);
            Due.is("new: told(" + what + ")", x.told(what), what == 2 ? 127 : 0);
        }
        Due.is("new: undo()", x.undo(), -3);
        Due.is("new: trace(0)", x.trace(0), -1);
        Due.is("new: read(0, 0)", x.read(0, 0), Long.MIN_VALUE);
        Due.is("NONE", WoundEggs.NONE, -1);
        Due.is("BAD", WoundEggs.BAD, -2);
        Due.is("STATE", WoundEggs.STATE, -3);
        Due.is("FULL", WoundEggs.FULL, -4);
        Due.is("NO", WoundEggs.NO, Long.MIN_VALUE);
    }

    private static void eggs() {
        WoundEggs x = new WoundEggs();
        Due.is("egg(-1, ..)", x.egg(-1, 0, 1, 0), -1);
        Due.is("egg(7, ..)", x.egg(7, 10, 0, 30), -1);
        Due.is("v -1", x.egg(0, -1, 1, 0), -2);
        Due.is("v 10", x.egg(0, 10, 1, 0), -2);
        Due.is("period 0", x.egg(0, 0, 0, 0), -2);
        Due.is("period 31", x.egg(0, 0, 31, 0), -2);
        Due.is("setting -1", x.egg(0, 0, 1, -1), -2);
        Due.is("setting 30", x.egg(0, 0, 1, 30), -2);
        Due.is("none came", x.count(0), 0);
        Due.is("the least", x.egg(0, 0, 1, 0), 0);
        Due.is("the most", x.egg(6, 9, 30, 29), 1);
        for (int e = 2; e < 6; e++) {
            Due.is("egg " + e, x.egg(e, e, e, e), e);
        }
        Due.is("a seventh", x.egg(0, 0, 1, 0), -4);
        Due.is("a seventh, BAD", x.egg(0, 0, 31, 0), -2);
        Due.is("a seventh, NONE", x.egg(7, 0, 1, 0), -1);
        Due.is("of the most: v", x.of(1, 1), 9);
        Due.is("of the most: PERIOD", x.of(1, 2), 30);
        Due.is("of the most: SETTING", x.of(1, 3), 29);
        Due.is("of the most: KIND", x.of(1, 0), 6);
        Due.is("of(6, 0)", x.of(6, 0), -1);
        Due.is("of(-1, 0)", x.of(-1, 0), -1);
        Due.is("of(0, -1)", x.of(0, -1), -1);
        Due.is("of(0, 10)", x.of(0, 10), -1);
    }

    private static void turnsAndRests() {
        int[] turns = {5, 5, 10, 8, 5, 11};
        int[] rests = {2, 0, 7, 7, 4, 7};
        WoundEggs x = new WoundEggs();
        for (int kind = 0; kind <= 5; kind++) {
            x.egg(kind, 3, 5, 7);
            Due.is("TURN of kind " + kind, x.of(kind, 7), turns[kind]);
            Due.is("REST of kind " + kind, x.of(kind, 8), rests[kind]);
            Due.is("NEXT of kind " + kind, x.of(kind, 9), rests[kind]);
        }
        x.pass(3);
        int[] nexts = {4, 2, 4, 4, 1, 4};
        for (int kind = 0; kind <= 5; kind++) {
            Due.is("NEXT on day 3 of kind " + kind, x.of(kind, 9), nexts[kind]);
        }
        x.smash(2, true);
        Due.is("NEXT of a broken one", x.of(2, 9), -5);
        Due.is("REST of a broken one", x.of(2, 8), 7);
        WoundEggs y = new WoundEggs();
        y.egg(6, 3, 5, 7);
        Due.is("REST of a TOLD one", y.of(0, 8), 7);
        y.row(0, 0, 9);
        y.row(0, 1, 4);
        Due.is("TURN of a TOLD one", y.of(0, 7), 8);
        Due.is("REST by its row at 1", y.of(0, 8), 3);
        y.set(0, 0, 8);
        Due.is("REST by its row at 0", y.of(0, 8), 5);
        y.set(0, 0, 7);
        Due.is("REST by its row at 3", y.of(0, 8), 7);
    }

    private static void negativeSums() {
        WoundEggs x = new WoundEggs();
        x.egg(0, 0, 5, 0);
        x.egg(4, 0, 5, 0);
        x.egg(0, 0, 5, 0);
        Due.is("store", Due.store(x, "early 9 p<2;early 10 p=2"), 0);
        Due.is("REST of -9", x.of(0, 8), 1);
        Due.is("REST of -9, a PRIOR", x.of(1, 8), 3);
        Due.is("REST of -10", x.of(2, 8), 0);
    }

    private static void setting() {
        WoundEggs x = new WoundEggs();
        x.egg(0, 0, 5, 7);
        Due.is("PERIOD becomes 30", x.set(0, 0, 30), 5);
        Due.is("PERIOD becomes 1", x.set(0, 0, 1), 30);
        Due.is("PERIOD 0", x.set(0, 0, 0), -2);
        Due.is("PERIOD 31", x.set(0, 0, 31), -2);
        Due.is("PERIOD is", x.of(0, 2), 1);
        Due.is("SETTING becomes 29", x.set(0, 1, 29), 7);
        Due.is("SETTING becomes 0", x.set(0, 1, 0), 29);
        Due.is("SETTING 30", x.set(0, 1, 30), -2);
        Due.is("SETTING -1", x.set(0, 1, -1), -2);
        Due.is("SETTING is", x.of(0, 3), 0);
        Due.is("set(1, 0, 0)", x.set(1, 0, 0), -1);
        Due.is("set(-1, 0, 0)", x.set(-1, 0, 0), -1);
        Due.is("set(0, 2, 0)", x.set(0, 2, 99), -1);
        Due.is("set(0, -1, 0)", x.set(0, -1, 99), -1);
    }

    private static void smashing() {
        WoundEggs x = new WoundEggs();
        x.egg(0, 0, 1, 0);
        Due.is("told(3), whole", x.told(3), 1);
        Due.is("smash", x.smash(0, true), 0);
        Due.is("smash again", x.smash(0, true), 1);
        Due.is("of(0, 4)", x.of(0, 4), 1);
        Due.is("told(3), broken", x.told(3), 0);
        x.pass(5);
        Due.is("WENT of a broken one", x.of(0, 5), 0);
        Due.is("whole again", x.smash(0, false), 1);
        Due.is("of(0, 4), whole", x.of(0, 4), 0);
        Due.is("smash(1, true)", x.smash(1, true), -1);
        Due.is("smash(-1, true)", x.smash(-1, true), -1);
    }

    private static void listening() {
        WoundEggs x = new WoundEggs();
        x.egg(0, 0, 1, 0);
        Due.is("listen(5)", x.listen(5), 127);
        Due.is("listen(128)", x.listen(128), -2);
        Due.is("listen(-1)", x.listen(-1), -2);
        Due.is("told(2)", x.told(2), 5);
        x.pass(7);
        Due.is("MISSED in a week", x.of(0, 6), 5);
        Due.is("WENT in a week", x.of(0, 5), 7);
        Due.is("listen(0)", x.listen(0), 5);
        x.pass(1);
        Due.is("MISSED then", x.of(0, 6), 6);
        Due.is("listen(127)", x.listen(127), 0);
        x.pass(1);
        Due.is("MISSED, all days heard", x.of(0, 6), 6);
    }

    private static void rows() {
        WoundEggs x = new WoundEggs();
        x.egg(6, 0, 4, 0);
        x.egg(3, 0, 4, 0);
        Due.is("row", x.row(0, 3, 9), 0);
        Due.is("row again", x.row(0, 3, 0), 9);
        Due.is("row part 4", x.row(0, 4, 1), -1);
        Due.is("row part -1", x.row(0, -1, 1), -1);
        Due.is("row n 10", x.row(0, 0, 10), -2);
        Due.is("row n -1", x.row(0, 0, -1), -2);
        Due.is("row of another KIND", x.row(1, 0, 1), -3);
        Due.is("row of another KIND, BAD", x.row(1, 0, 10), -2);
        Due.is("row of no EGG", x.row(2, 0, 10), -1);
    }

    private static void feeding() {
        WoundEggs x = new WoundEggs();
        Due.is("feed(-1)", x.feed(-1), -2);
        Due.is("feed(128)", x.feed(128), -2);
        for (int i = 1; i <= 100; i++) {
            Due.is("feed " + i, x.feed(i == 1 ? 127 : 0), i);
        }
        Due.is("feed a 101st", x.feed(0), -4);
        Due.is("feed a 101st, BAD", x.feed(128), -2);
        Due.is("count(5)", x.count(5), 100);
        Due.is("store", x.store(), -10);
        Due.is("count(5)", x.count(5), 0);
        String most = "late 12 " + "p=0|".repeat(22);
        Due.is("a fault behind 100 bytes", Due.store(x, most + "p=1|"), -110);
        Due.is("a fault behind 100 bytes", Due.store(x, most + "p=1;"), -110);
        Due.is("a fault in the 100th", Due.store(x, most + "p=1x"), -109);
        Due.is("99 bytes", Due.store(x, most + "p=1"), 0);
        Due.is("100 bytes", Due.store(x, most + "p=12"), 1);
    }

    private static void storing() {
        WoundEggs x = new WoundEggs();
        x.egg(0, 0, 30, 0);
        for (int i = 0; i < 5; i++) {
            Due.is("store " + i, Due.store(x, "all " + (i + 1)), i);
            Due.is("REST by store " + i, x.of(0, 8), i + 1);
        }
        Due.is("a fault", Due.store(x, "all x"), -14);
        Due.is("the one that held holds", x.told(1), 5);
        Due.is("STORES", x.count(1), 5);
        Due.is("a fault behind clauses", Due.store(x, "late 9 p=0;all 8;x"), -27);
        Due.is("the sixth", Due.store(x, "all 29"), 5);
        Due.is("a seventh", Due.store(x, "all 9"), -4);
        Due.is("THE TEXT stays", x.count(5), 5);
        Due.is("an eighth", x.store(), -4);
        Due.is("STORES", x.count(1), 6);
        Due.is("the newest holds", x.of(0, 8), 29);
    }

    private static void fault(String text, int place) {
        Due.is("store() of " + text, Due.store(new WoundEggs(), text), -10 - place);
    }

    private static void faults() {
        fault("", 0);
        fault("x", 0);
        fault(" all 1", 0);
        fault("al", 2);
        fault("late", 4);
        fault("late1 p=1", 4);
        fault("late  1 p=1", 5);
        fault("late 1", 6);
        fault("late 1;", 6);
        fault("late 100 p=1", 7);
        fault("late 1 ", 7);
        fault("late 1  p=1", 7);
        fault("late 1 q=1", 7);
        fault("late 1 p", 8);
        fault("late 1 p!1", 8);
        fault("late 1 p=", 9);
        fault("late 1 p=x", 9);
        fault("late 1 p=1 ", 10);
        fault("late 1 p=123", 11);
        fault("late 1 p=1&", 11);
        fault("late 1 p=1&&", 11);
        fault("late 1 p=1|;", 11);
        fault("late 1 p=1)", 10);
        fault("late 1 (p=1", 11);
        fault("late 1 (p=1;", 11);
        fault("late 1 ()", 8);
        fault("late 1 !&", 8);
        fault("late 1 p=1;;", 11);
        fault("late 1 p=1;x", 11);
        fault("early 1 !!!!!p=1", 12);
        fault("early 1 (!(!(p=1))))", 12);
        fault("early 1 !(!(!p=1))", 12);
        fault("early 1 !(!(p=1&!!p=1))", 16);
        fault("early 1 !(!(p=1)&!!!p=1)", 19);
        fault("all 1 p=1", 5);
        fault("all 123", 6);
        fault("all 1;", 6);
        fault("all 1\0", 5);
        fault("all \0001", 4);
        fault("late 1 p=1\0", 10);
        fault("\0", 0);
        fault("alla 1", 3);
        fault("early 12 v>1;earle", 17);
        fault("all 1;all 2;all 3;all 4;all 5;all 6;all 7;all 8;all 9;all 10;", 60);
        fault("all 1;all 2;all 3;all 4;all 5;all 6;all 7;all 8;all 9;all 10;all 1", 60);
        fault("all 1;all 2;all 3;all 4;all 5;all 6;all 7;all 8;all 9;all 10", -10);
        fault("early 1 !!!!p=1", -10);
        fault("early 1 !(!(p=1))", -10);
        fault("early 1 !p=1&!p=1&!p=1&!p=1&!p=1", -10);
        fault("late 00 ((((p=00))))|!b>99", -10);
    }

    /** What was read of texts that are none is forgotten. */
    private static void manyFaults() {
        WoundEggs x = new WoundEggs();
        x.egg(0, 0, 30, 0);
        for (int i = 0; i < 4; i++) {
            Due.is("a fault", Due.store(x, "all 9;late 9 " + "p=0|".repeat(21)), -10 - 97);
        }
        Due.is("ALL", x.told(1), 0);
        Due.is("a STORE", Due.store(x, "late 3 p=1;early 1 p=0"), 0);
        Due.is("REST", x.of(0, 8), 29);
    }

    /** Whether an E holds for EGG 1, a SLOW one with v 4, PERIOD 6, SETTING 9, BROKEN. */
    private static void holds(String e, boolean due) {
        WoundEggs x = new WoundEggs();
        x.egg(0, 0, 30, 0);
        x.egg(3, 4, 6, 9);
        x.smash(1, true);
        Due.is("store of " + e, Due.store(x, "late 37 " + e), 0);
        Due.is(e, x.of(1, 8), due ? 6 : 9);
    }

    private static void tests() {
        holds("p=1", true);
        holds("p=0", false);
        holds("k=3", true);
        holds("v=4", true);
        holds("m=6", true);
        holds("s=9", true);
        holds("s=09", true);
        holds("b=1", true);
        holds("v<4", false);
        holds("v<5", true);
        holds("v>4", false);
        holds("v>3", true);
        holds("v=5", false);
        holds("m<99", true);
        holds("!p=1", false);
        holds("!p=0", true);
        holds("!!p=1", true);
        holds("p=1&k=3&v=4", true);
        holds("p=1&k=3&v=5", false);
        holds("p=0&k=3&v=4", false);
        holds("p=0|k=0|v=4", true);
        holds("p=0|k=0|v=5", false);
        holds("p=1|k=0&v=5", true);
        holds("p=0&k=3|v=4", true);
        holds("(p=1|k=0)&v=5", false);
        holds("!p=0&k=0", false);
        holds("!(p=0&k=0)", true);
        holds("!p=1|k=3", true);
        holds("!(p=1|k=3)", false);
        holds("p=0|(k=3&!(v=5|m=5))", true);
        holds("(((p=1|p=0)&k=3)|s=0)&b=1", true);
    }

    private static void allAndSums() {
        WoundEggs x = new WoundEggs();
        x.egg(0, 2, 30, 1);
        x.egg(0, 3, 30, 1);
        Due.is("store", Due.store(x, "all 9;late 5 v=2;all 2;early 1 v<9;late 7 v>1"), 0);
        Due.is("ALL is the last one's", x.told(1), 2);
        Due.is("REST, 1 and 2 and 5 - 1 + 7", x.of(0, 8), 14);
        Due.is("REST, 1 and 2 - 1 + 7", x.of(1, 8), 9);
        Due.is("a store without all", Due.store(x, "late 5 b=1"), 1);
        Due.is("ALL of it", x.told(1), 0);
        Due.is("REST", x.of(0, 8), 1);
        x.smash(0, true);
        Due.is("REST of one now BROKEN", x.of(0, 8), 6);
        Due.is("a fault behind all", Due.store(x, "all 5;late 3 p=0;all"), -30);
        Due.is("a store with neither", Due.store(x, "late 0 p=0"), 2);
        Due.is("its ALL", x.told(1), 0);
        Due.is("REST", x.of(0, 8), 1);
        Due.is("ten clauses", Due.store(x, "late 1 p=0;late 1 p=0;late 1 p=0;late 1 p=0;late 1 p=0;"
            + "late 1 p=0;all 3;late 1 p=0;late 9 p=0;all 4"), 3);
        Due.is("REST by ten clauses", x.of(0, 8), 21);
    }

    private static void telling() {
        WoundEggs x = new WoundEggs();
        x.egg(0, 0, 2, 0);
        x.egg(0, 0, 3, 0);
        x.egg(0, 0, 4, 1);
        Due.is("told(3)", x.told(3), 3);
        Due.is("told(4), days 0 to 4 are taken", x.told(4), 7);
        x.listen(0);
        x.pass(5);
        Due.is("told(0)", x.told(0), 5);
        Due.is("told(3) on day 5", x.told(3), 4);
        Due.is("told(4) on day 5", x.told(4), 2);
        Due.is("told(5)", x.told(5), 6);
        Due.is("told(6)", x.told(6), 6);
        x.listen(127);
        x.pass(2);
        Due.is("told(5), three more", x.told(5), 9);
        Due.is("told(6), none more", x.told(6), 6);
        Due.is("undo, no image", x.undo(), -3);
        Due.is("told(7)", x.told(7), -1);
        Due.is("told(-1)", x.told(-1), -1);
        x.egg(0, 0, 1, 0);
        Due.is("never quiet", x.told(4), -5);
        x.smash(3, true);
        Due.is("quiet, one BROKEN", x.told(4), 0);
    }
}
