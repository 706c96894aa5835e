/** The limits and refusals of promises 11 to 23, and of the second part of the terms, one by one. */
public final class DayLimitsTest {
    private static final int NONE = -1, BAD = -2, STATE = -3, FULL = -4;
    private static final int MIN = Integer.MIN_VALUE, MAX = Integer.MAX_VALUE;
    private static final long NO = WoundEggs.NO;

    public static void main(String[] args) {
        pass();
        lastDay();
        wentAtMost();
        missedAtMost();
        on();
        onAnswersTheFirstNamed();
        onDays();
        often();
        oftenDays();
        together();
        togetherDays();
        busy();
        busyDays();
        hear();
        hearAnswersTheFirstNamed();
        can();
        settings();
        periods();
        cans();
        heardOfIt();
        heardAsItIsNow();
        odds();
        mean();
        plan();
        planAnswersTheFirstNamed();
        planOfTen();
        ends();
        book();
        bookAnswersTheFirstNamed();
        looked();
        Due.end();
    }

    /** So many EGGS, all of KIND 0, v 0, PERIOD 1, SETTING 0. */
    private static WoundEggs eggs(int many) {
        WoundEggs x = new WoundEggs();
        for (int e = 0; e < many; e++) {
            Due.is("egg " + e, x.egg(0, 0, 1, 0), e);
        }
        return x;
    }

    /** A BAILIFF with the TURN 61 and the SETTING 29, and ALL, by which REST is from 29 on. */
    private static WoundEggs sixtyOne(int all) {
        WoundEggs x = new WoundEggs();
        x.egg(5, 0, 30, 29);
        Due.is("store", Due.store(x, "all " + all), 0);
        Due.is("TURN", x.of(0, 7), 61);
        Due.is("REST", x.of(0, 8), (29 + all) % 61);
        return x;
    }

    // ---- promise 11

    private static void pass() {
        Due.edges("pass, BAD", BAD, n -> new WoundEggs().pass(n), 0, 60);
        WoundEggs x = eggs(1);
        Due.is("none goes", x.pass(0), 0);
        Due.is("WENT", x.of(0, 5), 0);
        Due.is("60 go", x.pass(60), 60);
        Due.is("WENT", x.of(0, 5), 60);
        Due.is("one goes", x.pass(1), 61);
        Due.is("WENT", x.of(0, 5), 61);
        Due.is("without EGGS", new WoundEggs().pass(60), 60);
    }

    /**
     * It takes more than the 512 calls for which an object is promised to come to DAY 99999: this
     * is the one way to see that limit.
     */
    private static void lastDay() {
        WoundEggs x = new WoundEggs();
        x.egg(0, 0, 7, 4);
        Due.pass(x, 99939);
        Due.is("it would be above 99999", x.pass(61), BAD);
        Due.is("DAY", x.pass(0), 99939);
        Due.is("to the last", x.pass(60), 99999);
        Due.is("one more", x.pass(1), STATE);
        Due.is("60 more", x.pass(60), STATE);
        Due.is("BAD ahead of STATE", x.pass(61), BAD);
        Due.is("BAD ahead of STATE", x.pass(-1), BAD);
        Due.is("DAY stays", x.told(0), 99999);
        Due.is("none goes", x.pass(0), 99999);
        Due.is("WENT", x.of(0, 5), 9999);
        // 99999 is 4 modulo 7.
        Due.is("on this DAY", x.told(3), 1);
        Due.is("beyond 99999", x.on(6, 0), 0);
        Due.is("beyond 99999", x.on(7, 0), 1);
        Due.is("beyond 99999", x.on(8, 10), 10001);
        Due.is("beyond 99999", x.together(1, 0), 99999);
        x.set(0, 1, 3);
        Due.is("beyond 99999", x.together(1, 0), 100005);
        Due.is("beyond 99999", x.of(0, 9), 6);
        Due.is("beyond 99999", x.busy(7, 0), 6);
        Due.is("beyond 99999", x.busy(7, 2), 8);
        WoundEggs y = new WoundEggs();
        Due.pass(y, 99940);
        Due.is("60 more, it would be 100000", y.pass(60), STATE);
        Due.is("DAY stays", y.told(0), 99940);
        Due.is("59 more", y.pass(59), 99999);
    }

    private static void wentAtMost() {
        WoundEggs x = eggs(1);
        Due.pass(x, 9998);
        Due.is("WENT", x.of(0, 5), 9998);
        Due.is("asked, beyond", x.on(2, 10), 10000);
        x.pass(1);
        Due.is("WENT", x.of(0, 5), 9999);
        Due.is("MISSED", x.of(0, 6), 0);
        Due.is("asked, beyond", x.on(1, 10), 10000);
        Due.is("asked, beyond", x.on(60, 1), 10059);
        Due.is("asked, beyond", x.mean(60, 0), 10059);
        x.plan(0, 0);
        Due.is("asked, beyond", x.ends(0), 10000);
        x.pass(1);
        Due.is("9999 at most", x.of(0, 5), 9999);
        x.pass(60);
        Due.is("9999 at most", x.of(0, 5), 9999);
        Due.is("9999 at most", x.told(5), 9999);
        Due.is("DAY", x.told(0), 10060);
        Due.is("asked, beyond", x.on(1, 10), 10000);
    }

    /** MISSED is counted on when WENT is 9999, and has its own most. */
    private static void missedAtMost() {
        WoundEggs x = eggs(1);
        x.pass(60);
        x.listen(0);
        Due.pass(x, 9939);
        Due.is("WENT", x.of(0, 5), 9999);
        Due.is("MISSED", x.of(0, 6), 9939);
        x.pass(30);
        Due.is("WENT", x.of(0, 5), 9999);
        Due.is("MISSED", x.of(0, 6), 9969);
        x.pass(29);
        Due.is("MISSED", x.of(0, 6), 9998);
        Due.is("asked, beyond", x.on(2, 2), 10000);
        x.pass(1);
        Due.is("MISSED", x.of(0, 6), 9999);
        x.plan(0, 0);
        x.plan(0, 0);
        Due.is("asked, beyond", x.ends(1), 10001);
        Due.is("asked, beyond", x.on(60, 2), 10059);
        x.pass(1);
        Due.is("9999 at most", x.of(0, 6), 9999);
        x.pass(60);
        Due.is("9999 at most", x.told(6), 9999);
        Due.is("9999 at most", x.told(5), 9999);
    }

    // ---- promise 12

    private static void on() {
        Due.edges("on, BAD: n", BAD, n -> eggs(1).on(n, 0), 0, 60);
        for (int many = 0; many <= 6; many++) {
            WoundEggs x = eggs(many);
            Due.takes("on, what", NONE, what -> x.on(1, what), 0, 2);
            Due.takes("on, WENT of one of " + many, NONE, what -> x.on(1, what), 10, 9 + many);
            Due.refuses("on, NONE of " + many, NONE, what -> x.on(1, what), -1, 3, 9, 10 + many, 16,
                MIN, MAX);
        }
    }

    private static void onAnswersTheFirstNamed() {
        WoundEggs x = eggs(1);
        Due.is("what ahead of n", x.on(61, 3), NONE);
        Due.is("what ahead of n", x.on(-1, 11), NONE);
        Due.is("no EGGS", new WoundEggs().on(0, 10), NONE);
        Due.is("no EGGS", new WoundEggs().on(60, 0), 0);
    }

    private static void onDays() {
        WoundEggs x = sixtyOne(31);
        Due.is("on the 60th", x.on(60, 0), 1);
        Due.is("WENT ahead of it", x.on(60, 10), 0);
        Due.is("on the 59th", x.on(59, 0), 0);
        Due.is("on this DAY", x.on(0, 0), 0);
        x.pass(1);
        Due.is("WENT behind it", x.on(60, 10), 1);
        Due.is("none MISSED", x.on(60, 2), 0);
        // DAY 60 is 4 modulo 7.
        x.listen(127 - 16);
        Due.is("it is MISSED", x.on(60, 2), 1);
        x.listen(16);
        Due.is("it is not", x.on(60, 2), 0);
        x.smash(0, true);
        Due.is("it is BROKEN", x.on(59, 0), 0);
        Due.is("it is BROKEN", x.on(60, 10), 0);
    }

    // ---- promise 13

    private static void often() {
        for (int many = 1; many <= 6; many++) {
            WoundEggs x = eggs(many);
            for (int e = 0; e < many; e++) {
                Due.is("often of EGG " + e, x.often(e, 5), 5);
            }
            for (int e : new int[] {-1, many, MIN, MAX}) {
                Due.is("often, NO: egg " + e, x.often(e, 5), NO);
            }
        }
        WoundEggs x = eggs(1);
        long most = 1000000000L;
        Due.is("of 0 days", x.often(0, 0), 0);
        Due.is("of the most", x.often(0, most), most);
        long[] refused = {-1, most + 1, Integer.MIN_VALUE, Integer.MAX_VALUE, 1L << 32,
            (1L << 32) + 5, -(1L << 32), -(1L << 32) + 5, Long.MIN_VALUE, Long.MAX_VALUE};
        for (long n : refused) {
            Due.is("often, NO: n " + n, x.often(0, n), NO);
        }
    }

    private static void oftenDays() {
        WoundEggs x = sixtyOne(31);
        long[] days = {0, 1, 60, 61, 121, 122, 182, 183, 1000000000L};
        long[] dues = {0, 0, 0, 1, 1, 2, 2, 3, 16393442L};
        for (int i = 0; i < days.length; i++) {
            Due.is("often in " + days[i], x.often(0, days[i]), dues[i]);
        }
        x.pass(60);
        Due.is("this DAY is the first", x.often(0, 1), 1);
        Due.is("often in 61", x.often(0, 61), 1);
        Due.is("often in 62", x.often(0, 62), 2);
        x.smash(0, true);
        Due.is("BROKEN", x.often(0, 1), 0);
        Due.is("BROKEN", x.often(0, 1000000000L), 0);
        Due.is("BROKEN, NO", x.often(0, 1000000001L), NO);
    }

    // ---- promise 14

    private static void together() {
        for (int many = 0; many <= 6; many++) {
            WoundEggs x = eggs(many);
            int most = (1 << many) - 1;
            for (int what = 0; what <= 1; what++) {
                int w = what;
                for (int set = 0; set <= most; set++) {
                    Due.is("of " + many + ", set " + set, x.together(set, w), w);
                }
                Due.refuses("together, NO: set of " + many, NO, set -> x.together(set, w), -1,
                    most + 1, 64, 65, 63 + 64, MIN, MAX);
            }
            Due.refuses("together, NO: what", NO, what -> x.together(0, what), -1, 2, MIN, MAX);
        }
        WoundEggs x = eggs(5);
        Due.is("an EGG that there is not", x.together(32, 0), NO);
        Due.is("one that there is and one not", x.together(33, 0), NO);
    }

    private static void togetherDays() {
        WoundEggs x = sixtyOne(31);
        Due.is("the first", x.together(1, 0), 60);
        Due.is("again", x.together(1, 1), 61);
        x.pass(60);
        Due.is("this one", x.together(1, 0), 60);
        x.pass(1);
        Due.is("behind it", x.together(1, 0), 121);
        x.egg(2, 0, 1, 0);
        // Of SUM 31: 1 modulo 2; 60 and 61 times k is odd by an odd k.
        Due.is("both", x.together(3, 0), 121);
        Due.is("both again", x.together(3, 1), 122);
        x.set(1, 1, 1);
        Due.is("both", x.together(3, 0), 182);
        x.smash(0, true);
        for (int what = 0; what <= 1; what++) {
            Due.is("the first is BROKEN", x.together(1, what), -5);
            Due.is("one is BROKEN", x.together(3, what), -5);
        }
        Due.is("the other", x.together(2, 0), 62);
        Due.is("of no EGGS: this DAY", x.together(0, 0), 61);
        Due.is("of no EGGS: 1", x.together(0, 1), 1);
        x.egg(0, 0, 2, 0);
        x.egg(0, 0, 2, 1);
        for (int what = 0; what <= 1; what++) {
            Due.is("never", x.together(12, what), -5);
            Due.is("never, with another", x.together(14, what), -5);
        }
    }

    // ---- promise 15

    private static void busy() {
        for (int what = 0; what <= 2; what++) {
            int w = what;
            Due.edges("busy, BAD: n", BAD, n -> eggs(1).busy(n, w), 1, 60);
        }
        Due.edges("busy, NONE: what", NONE, what -> eggs(1).busy(1, what), 0, 2);
        Due.is("what ahead of n", eggs(1).busy(0, 3), NONE);
        Due.is("what ahead of n", eggs(1).busy(61, -1), NONE);
        WoundEggs x = new WoundEggs();
        for (int what = 0; what <= 2; what++) {
            Due.is("no EGGS", x.busy(1, what), 0);
            Due.is("no EGGS", x.busy(60, what), 0);
        }
    }

    private static void busyDays() {
        WoundEggs x = sixtyOne(30);
        Due.is("the 60th of 60", x.busy(60, 0), 59);
        Due.is("the 60th of 60", x.busy(60, 1), 1);
        Due.is("DAY 59 is 3 modulo 7", x.busy(60, 2), 8);
        Due.is("behind the last", x.busy(59, 0), 0);
        Due.is("behind the last", x.busy(59, 1), 0);
        Due.is("behind the last", x.busy(59, 2), 0);
        x.pass(59);
        Due.is("this DAY", x.busy(1, 0), 0);
        Due.is("this DAY", x.busy(1, 1), 1);
        Due.is("this DAY", x.busy(1, 2), 8);
        x.pass(1);
        Due.is("the DAY behind", x.busy(60, 1), 0);
        WoundEggs y = eggs(6);
        Due.is("all six", y.busy(1, 1), 6);
        Due.is("of several the first", y.busy(60, 0), 0);
        Due.is("each day of the week", y.busy(7, 2), 127);
        Due.is("all but one", y.busy(6, 2), 63);
        y.pass(6);
        Due.is("the last of the week", y.busy(1, 2), 64);
        Due.is("the last and the first", y.busy(2, 2), 65);
        for (int e = 0; e < 6; e++) {
            y.smash(e, true);
        }
        for (int what = 0; what <= 2; what++) {
            Due.is("all are BROKEN", y.busy(60, what), 0);
        }
    }

    // ---- promise 16

    private static void hear() {
        Due.edges("hear, BAD: n", BAD, n -> eggs(1).hear(0, n, true), 0, 60);
        for (int many = 0; many <= 6; many++) {
            int of = many;
            Due.takes("hear, egg of " + many, NONE, e -> eggs(of).hear(e, 0, true), 0, many - 1);
            Due.refuses("hear, NONE: egg of " + many, NONE, e -> eggs(of).hear(e, 0, true), many,
                -2, 6, MIN, MAX);
        }
        WoundEggs x = eggs(1);
        for (int i = 1; i <= 6; i++) {
            Due.is("how many there are", x.hear(0, i, true), i);
        }
        Due.is("FULL: 6", x.hear(0, 0, true), FULL);
        Due.is("how many there are", x.count(2), 6);
        for (int n : new int[] {0, -1, 60, 61, MIN, MAX}) {
            Due.is("egg -1: none then", x.hear(-1, n, n > 0), 0);
            Due.is("none then", x.count(2), 0);
            Due.is("one comes", x.hear(0, 0, true), 1);
        }
        Due.is("egg -1 without EGGS", new WoundEggs().hear(-1, -1, false), 0);
    }

    private static void hearAnswersTheFirstNamed() {
        WoundEggs x = eggs(1);
        Due.is("egg ahead of n", x.hear(1, 61, true), NONE);
        for (int i = 1; i <= 6; i++) {
            x.hear(0, 0, true);
        }
        Due.is("egg ahead of FULL", x.hear(1, 0, true), NONE);
        Due.is("n ahead of FULL", x.hear(0, -1, true), BAD);
        Due.is("all stay", x.count(2), 6);
    }

    // ---- promise 17

    private static void can() {
        Due.edges("can, NONE: which", NONE, which -> eggs(1).can(0, which, 0), 0, 2);
        Due.edges("can, NONE: what", NONE, what -> eggs(1).can(0, 0, what), 0, 1);
        for (int many = 1; many <= 6; many++) {
            WoundEggs x = eggs(many);
            Due.edges("can, NONE: egg of " + many, NONE, e -> x.can(e, 0, 0), 0, many - 1);
        }
        Due.is("no EGGS", new WoundEggs().can(0, 0, 0), NONE);
        WoundEggs x = eggs(1);
        int[] many = {30, 30, 10};
        int[] least = {0, 1, 0};
        for (int which = 0; which <= 2; which++) {
            Due.is("none HEARD: how many", x.can(0, which, 0), many[which]);
            Due.is("none HEARD: the least", x.can(0, which, 1), least[which]);
        }
        x.hear(0, 0, true);
        x.hear(0, 0, false);
        for (int which = 0; which <= 2; which++) {
            Due.is("none fits: how many", x.can(0, which, 0), 0);
            Due.is("none fits: the least", x.can(0, which, 1), -5);
        }
    }

    private static void one(String words, WoundEggs x, int which, int n, int dueMany, int dueLeast) {
        x.hear(-1, 0, true);
        x.hear(0, n, true);
        Due.is(words + ", " + n + " days: how many", x.can(0, which, 0), dueMany);
        Due.is(words + ", " + n + " days: the least", x.can(0, which, 1), dueLeast);
    }

    private static void settings() {
        WoundEggs x = sixtyOne(0);
        one("SETTINGS", x, 0, 0, 1, 0);
        one("SETTINGS", x, 0, 1, 1, 1);
        one("SETTINGS", x, 0, 28, 1, 28);
        one("SETTINGS", x, 0, 29, 1, 29);
        one("SETTINGS", x, 0, 30, 0, -5);
        one("SETTINGS", x, 0, 60, 0, -5);
        WoundEggs y = sixtyOne(31);
        one("SETTINGS", y, 0, 60, 1, 29);
        one("SETTINGS", y, 0, 30, 0, -5);
        y.hear(-1, 0, true);
        y.hear(0, 60, false);
        Due.is("all but 29", y.can(0, 0, 0), 29);
        Due.is("the least", y.can(0, 0, 1), 0);
        y.hear(0, 31, false);
        Due.is("all but 29 and 0", y.can(0, 0, 0), 28);
        Due.is("the least", y.can(0, 0, 1), 1);
    }

    private static void periods() {
        // TURNS are 3 to 61, of which 61 alone divides 90 less 29.
        WoundEggs x = new WoundEggs();
        x.egg(5, 0, 1, 29);
        Due.is("store", Due.store(x, "all 61"), 0);
        one("PERIODS", x, 1, 29, 1, 30);
        WoundEggs y = new WoundEggs();
        y.egg(0, 0, 30, 0);
        y.hear(0, 0, true);
        y.hear(0, 1, true);
        Due.is("1 alone", y.can(0, 1, 0), 1);
        Due.is("1 alone", y.can(0, 1, 1), 1);
        Due.is("none of 30", y.can(0, 0, 0), 0);
        y.hear(-1, 0, true);
        y.hear(0, 60, true);
        // 1, 2, 3, 4, 5, 6, 10, 12, 15, 20, 30.
        Due.is("those that divide 60", y.can(0, 1, 0), 11);
        y.hear(0, 30, false);
        Due.is("and not 30: 4, 12, 20", y.can(0, 1, 0), 3);
        Due.is("the least", y.can(0, 1, 1), 4);
    }

    private static void cans() {
        WoundEggs x = new WoundEggs();
        x.egg(1, 5, 30, 0);
        one("CAN", x, 2, 0, 1, 0);
        one("CAN", x, 2, 1, 1, 1);
        one("CAN", x, 2, 8, 1, 8);
        one("CAN", x, 2, 9, 1, 9);
        one("CAN", x, 2, 10, 0, -5);
        one("CAN", x, 2, 29, 0, -5);
        one("CAN", x, 2, 39, 1, 9);
        WoundEggs y = new WoundEggs();
        y.egg(3, 5, 30, 0);
        one("CAN of a SLOW one", y, 2, 30, 1, 0);
        one("CAN of a SLOW one", y, 2, 39, 1, 9);
        one("CAN of a SLOW one", y, 2, 40, 0, -5);
    }

    private static void heardOfIt() {
        WoundEggs x = eggs(3);
        x.set(0, 0, 30);
        x.set(1, 0, 30);
        x.set(2, 0, 30);
        x.hear(0, 4, true);
        x.hear(2, 7, true);
        x.hear(2, 0, true);
        Due.is("of EGG 0", x.can(0, 0, 0), 1);
        Due.is("of EGG 0", x.can(0, 0, 1), 4);
        Due.is("of EGG 1, none", x.can(1, 0, 0), 30);
        Due.is("of EGG 2, both", x.can(2, 0, 0), 0);
        WoundEggs y = eggs(1);
        y.set(0, 0, 30);
        for (int i = 0; i < 5; i++) {
            y.hear(0, i, false);
        }
        Due.is("five rows", y.can(0, 0, 1), 5);
        y.hear(0, 5, false);
        Due.is("the sixth is looked at", y.can(0, 0, 1), 6);
        Due.is("a seventh", y.hear(0, 6, false), FULL);
        Due.is("it did not come", y.can(0, 0, 1), 6);
        Due.is("24 are left", y.can(0, 0, 0), 24);
    }

    /** The DAY is that of asking, and the EGG is as it is then, BROKEN or not. */
    private static void heardAsItIsNow() {
        WoundEggs x = new WoundEggs();
        x.egg(0, 0, 30, 0);
        x.hear(0, 3, true);
        Due.is("on DAY 0", x.can(0, 0, 1), 3);
        x.pass(20);
        Due.is("on DAY 20", x.can(0, 0, 1), 23);
        x.smash(0, true);
        Due.is("BROKEN", x.can(0, 0, 1), 23);
        Due.is("BROKEN", x.can(0, 0, 0), 1);
        x.set(0, 0, 20);
        Due.is("of another PERIOD", x.can(0, 0, 1), 3);
        Due.is("of another PERIOD: 3, 23", x.can(0, 0, 0), 2);
        Due.is("a STORE", Due.store(x, "all 2;late 5 b=1"), 0);
        Due.is("by a STORE: 16", x.can(0, 0, 1), 16);
        x.smash(0, false);
        Due.is("by a STORE, it is not BROKEN: 1, 21", x.can(0, 0, 1), 1);
    }

    // ---- promises 18, 19

    private static void odds() {
        WoundEggs x = new WoundEggs();
        Due.edges("odds, NO", NO, part -> x.odds(part), 0, 1);
        Due.is("no EGGS: above", x.odds(0), 1);
        Due.is("no EGGS: below", x.odds(1), 1);
        x.egg(0, 0, 1, 0);
        Due.edges("odds, NO", NO, part -> x.odds(part), 0, 1);
        Due.is("each day: above", x.odds(0), 0);
        Due.is("each day: below", x.odds(1), 1);
        x.smash(0, true);
        Due.is("BROKEN: above", x.odds(0), 1);
        Due.is("BROKEN: below", x.odds(1), 1);
        WoundEggs y = new WoundEggs();
        y.egg(0, 0, 2, 0);
        y.egg(0, 0, 2, 1);
        Due.is("each day by two: above", y.odds(0), 0);
        Due.is("each day by two: below", y.odds(1), 1);
        y.set(1, 1, 0);
        Due.is("both alike: above", y.odds(0), 1);
        Due.is("both alike: below", y.odds(1), 2);
    }

    private static void mean() {
        WoundEggs none = new WoundEggs();
        Due.refuses("mean, NO: there are none", NO, n -> none.mean(n, 0), 0, 1, 60);
        Due.refuses("mean, NO: there are none", NO, n -> none.mean(n, 1), 0, 1, 60);
        for (int part = 0; part <= 1; part++) {
            int p = part;
            Due.edges("mean, NO: n", NO, n -> eggs(1).mean(n, p), 0, 60);
        }
        Due.edges("mean, NO: part", NO, part -> eggs(1).mean(0, part), 0, 1);
        WoundEggs x = eggs(6);
        Due.is("0 by 6: above", x.mean(0, 0), 0);
        Due.is("0 by 6: below", x.mean(0, 1), 1);
        Due.is("360 by 6: above", x.mean(60, 0), 60);
        Due.is("360 by 6: below", x.mean(60, 1), 1);
        for (int e = 0; e < 5; e++) {
            x.smash(e, true);
        }
        Due.is("1 by 6: above", x.mean(1, 0), 1);
        Due.is("1 by 6, BROKEN ones, too: below", x.mean(1, 1), 6);
        Due.is("4 by 6: above", x.mean(4, 0), 2);
        Due.is("4 by 6: below", x.mean(4, 1), 3);
        Due.is("60 by 6: above", x.mean(60, 0), 10);
    }

    // ---- promises 20, 21

    private static void plan() {
        Due.takes("plan, what", NONE, what -> eggs(1).plan(what, 0), 0, 3);
        Due.refuses("plan, NONE: what", NONE, what -> eggs(1).plan(what, 0), -2, 4, MIN, MAX);
        Due.edges("plan, BAD: bits", BAD, bits -> new WoundEggs().plan(3, bits), 0, 127);
        for (int many = 0; many <= 6; many++) {
            WoundEggs x = eggs(many);
            for (int what = 1; what <= 2; what++) {
                int w = what;
                Due.takes("plan, egg of " + many, NONE, e -> eggs(6).plan(w, e), 0, many - 1);
                Due.refuses("plan, NONE: egg of " + many, NONE, e -> x.plan(w, e), -1, many, 6, MIN,
                    MAX);
            }
            Due.is("refused rows do not come", x.count(3), 0);
        }
        for (int n : new int[] {MIN, -1, 0, 6, 127, 128, MAX}) {
            WoundEggs x = new WoundEggs();
            Due.is("by 0 n does not matter", x.plan(0, n), 1);
            Due.is("what -1: it is empty then", x.plan(-1, n), 0);
            Due.is("it is empty", x.count(3), 0);
            Due.is("it is empty: none goes", x.plan(0, n), 1);
        }
    }

    private static WoundEggs planned(int many) {
        WoundEggs x = eggs(1);
        for (int i = 1; i <= many; i++) {
            Due.is("how many there are", x.plan(0, 0), i);
        }
        return x;
    }

    private static void planAnswersTheFirstNamed() {
        WoundEggs x = planned(10);
        Due.is("FULL: 10", x.plan(0, 0), FULL);
        Due.is("FULL: 10", x.plan(1, 0), FULL);
        Due.is("FULL: 10", x.plan(3, 0), FULL);
        Due.is("what ahead of FULL", x.plan(4, 0), NONE);
        Due.is("egg ahead of FULL", x.plan(1, 1), NONE);
        Due.is("egg ahead of FULL", x.plan(2, -1), NONE);
        Due.is("bits ahead of FULL", x.plan(3, 128), BAD);
        Due.is("bits ahead of FULL", x.plan(3, -1), BAD);
        Due.is("what -1 when it is FULL", x.plan(-1, 0), 0);
        Due.is("it is empty then", x.count(3), 0);
    }

    private static void planOfTen() {
        for (int many = 0; many <= 10; many++) {
            WoundEggs x = planned(many);
            Due.is("ENDS of " + many + " DAYS", x.ends(0), many);
            Due.is("ENDS, none MISSED", x.ends(1), 0);
            Due.is("DAY stays", x.told(0), 0);
        }
        WoundEggs x = planned(9);
        x.listen(0);
        x.plan(0, 0);
        Due.is("an eleventh", x.plan(0, 0), FULL);
        Due.is("it did not come", x.ends(0), 10);
        Due.is("all are MISSED", x.ends(1), 10);
        // LISTENING becomes each day, then none.
        WoundEggs y = eggs(1);
        y.listen(0);
        y.plan(0, 0);
        y.plan(3, 127);
        y.plan(0, 0);
        y.plan(3, 0);
        y.plan(0, 0);
        Due.is("three went", y.ends(0), 3);
        Due.is("two are MISSED", y.ends(1), 2);
    }

    private static void ends() {
        Due.edges("ends, NONE", NONE, what -> eggs(1).ends(what), 0, 1);
        WoundEggs x = new WoundEggs();
        x.plan(0, 0);
        x.plan(3, 0);
        x.plan(0, 0);
        Due.is("ENDS without EGGS", x.ends(0), 0);
        Due.is("ENDS without EGGS", x.ends(1), 0);
        WoundEggs y = eggs(6);
        y.pass(2);
        Due.is("ENDS without a PLAN", y.ends(0), 12);
        for (int e = 0; e <= 5; e++) {
            y.plan(1, e);
        }
        y.plan(0, 0);
        Due.is("all are BROKEN", y.ends(0), 12);
        y.plan(2, 5);
        y.plan(0, 0);
        Due.is("one is not", y.ends(0), 13);
        y.plan(2, 0);
        Due.is("behind the last DAY", y.ends(0), 13);
    }

    // ---- promises 22, 23

    private static void book() {
        Due.edges("book, BAD: went", BAD, went -> eggs(1).book(0, went), 0, 9999);
        for (int many = 0; many <= 6; many++) {
            int of = many;
            Due.takes("book, egg of " + many, NONE, e -> eggs(of).book(e, 0), 0, many - 1);
            Due.refuses("book, NONE: egg of " + many, NONE, e -> eggs(of).book(e, 0), -2, many, 6,
                MIN, MAX);
        }
        WoundEggs x = eggs(1);
        for (int i = 1; i <= 8; i++) {
            Due.is("how many there are", x.book(0, 0), i);
        }
        Due.is("FULL: 8", x.book(0, 0), FULL);
        Due.is("how many there are", x.count(4), 8);
        for (int went : new int[] {0, -1, 9999, 10000, MIN, MAX}) {
            Due.is("egg -1: it is empty then", x.book(-1, went), 0);
            Due.is("it is empty", x.count(4), 0);
            Due.is("one comes", x.book(0, 0), 1);
        }
        Due.is("egg -1 without EGGS", new WoundEggs().book(-1, -1), 0);
    }

    private static void bookAnswersTheFirstNamed() {
        WoundEggs x = eggs(1);
        Due.is("egg ahead of went", x.book(1, 10000), NONE);
        for (int i = 1; i <= 8; i++) {
            x.book(0, 0);
        }
        Due.is("egg ahead of FULL", x.book(1, 0), NONE);
        Due.is("went ahead of FULL", x.book(0, 10000), BAD);
        Due.is("went ahead of FULL", x.book(0, -1), BAD);
        Due.is("all stay", x.count(4), 8);
    }

    private static void looked() {
        Due.is("no rows", new WoundEggs().looked(), -5);
        for (int other = 0; other < 8; other++) {
            WoundEggs x = eggs(2);
            x.smash(1, true);
            x.pass(3);
            for (int i = 0; i < 8; i++) {
                x.book(i % 2, (i % 2 == 0 ? 3 : 0) + (i >= other ? 1 : 0));
            }
            Due.is("the first that is otherwise", x.looked(), other);
        }
        WoundEggs y = eggs(1);
        y.book(0, 3);
        Due.is("more than it is", y.looked(), 0);
        y.pass(3);
        Due.is("as it is", y.looked(), -5);
        y.pass(1);
        Due.is("less than it is", y.looked(), 0);
        for (int i = 2; i <= 8; i++) {
            y.book(0, 4);
        }
        Due.is("a ninth", y.book(0, 0), FULL);
        Due.is("the first", y.looked(), 0);
        y.book(-1, 0);
        Due.is("no rows again", y.looked(), -5);
    }
}
