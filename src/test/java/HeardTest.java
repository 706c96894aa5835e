/** Promises 16 to 19: what is heard, odds. */
public final class HeardTest {
    public static void main(String[] args) {
        hearing();
        settings();
        periods();
        cans();
        withTests();
        odds();
        farOdds();
        means();
        Due.end();
    }

    private static void hearing() {
        WoundEggs x = new WoundEggs();
        Due.is("hear(0, ..), no EGG", x.hear(0, 61, true), -1);
        x.egg(0, 0, 3, 1);
        Due.is("hear(1, ..)", x.hear(1, 0, true), -1);
        Due.is("hear(-2, ..)", x.hear(-2, 0, true), -1);
        Due.is("n -1", x.hear(0, -1, true), -2);
        Due.is("n 61", x.hear(0, 61, true), -2);
        Due.is("hear", x.hear(0, 60, false), 1);
        for (int i = 2; i <= 6; i++) {
            Due.is("hear " + i, x.hear(0, 0, false), i);
        }
        Due.is("a seventh", x.hear(0, 0, false), -4);
        Due.is("a seventh, BAD", x.hear(0, 61, false), -2);
        Due.is("a seventh, NONE", x.hear(1, 61, false), -1);
        Due.is("count(2)", x.count(2), 6);
        Due.is("none then", x.hear(-1, 99, false), 0);
        Due.is("count(2), none", x.count(2), 0);
        Due.is("hear again", x.hear(0, 0, true), 1);
        Due.is("as but one row is", x.can(0, 0, 0), 10);
    }

    private static void settings() {
        WoundEggs x = new WoundEggs();
        x.egg(0, 0, 10, 4);
        x.egg(0, 0, 10, 4);
        Due.is("none HEARD", x.can(0, 0, 0), 30);
        Due.is("none HEARD, the least", x.can(0, 0, 1), 0);
        x.hear(0, 3, true);
        Due.is("how many", x.can(0, 0, 0), 3);
        Due.is("the least", x.can(0, 0, 1), 3);
        Due.is("of another EGG", x.can(1, 0, 0), 30);
        x.pass(2);
        Due.is("the least, from day 2 on", x.can(0, 0, 1), 5);
        x.smash(0, true);
        Due.is("BROKEN or not", x.can(0, 0, 0), 3);
        x.hear(0, 13, false);
        Due.is("none fits", x.can(0, 0, 0), 0);
        Due.is("none fits, the least", x.can(0, 0, 1), -5);
        x.hear(-1, 0, false);
        x.hear(0, 0, false);
        x.hear(0, 1, false);
        Due.is("not 2, 12, 22, 3, 13, 23", x.can(0, 0, 0), 24);
        Due.is("SETTING stays", x.of(0, 3), 4);
        Due.is("can(2, 0, 0)", x.can(2, 0, 0), -1);
        Due.is("can(-1, 0, 0)", x.can(-1, 0, 0), -1);
        Due.is("can(0, 3, 0)", x.can(0, 3, 0), -1);
        Due.is("can(0, -1, 0)", x.can(0, -1, 0), -1);
        Due.is("can(0, 0, 2)", x.can(0, 0, 2), -1);
        Due.is("can(0, 0, -1)", x.can(0, 0, -1), -1);
    }

    private static void periods() {
        WoundEggs x = new WoundEggs();
        x.egg(0, 0, 10, 2);
        Due.is("none HEARD", x.can(0, 1, 0), 30);
        Due.is("none HEARD, the least", x.can(0, 1, 1), 1);
        x.hear(0, 12, true);
        Due.is("1, 2, 5, 10", x.can(0, 1, 0), 4);
        Due.is("the least", x.can(0, 1, 1), 1);
        x.hear(0, 3, false);
        Due.is("2, 5, 10", x.can(0, 1, 0), 3);
        Due.is("the least", x.can(0, 1, 1), 2);
        x.hear(0, 7, false);
        Due.is("10 alone", x.can(0, 1, 1), 2);
        x.hear(0, 4, false);
        Due.is("10 alone", x.can(0, 1, 1), 10);
        Due.is("PERIOD stays", x.of(0, 2), 10);
        // A TOLD one's row goes by the PERIOD that it would have.
        WoundEggs y = new WoundEggs();
        y.egg(6, 0, 4, 0);
        y.row(0, 3, 5);
        y.hear(0, 5, true);
        // REST 0 or 5: 1; 5; and of 3 modulo 4: all above 5 (rest 5), 3 (rest 2).
        Due.is("TOLD: 1, 3, 5, 7, 11, .. 27", y.can(0, 1, 0), 9);
    }

    private static void cans() {
        WoundEggs x = new WoundEggs();
        x.egg(1, 9, 10, 0);
        x.egg(3, 9, 10, 0);
        x.egg(0, 9, 10, 0);
        Due.is("none HEARD", x.can(0, 2, 0), 10);
        x.hear(0, 14, true);
        Due.is("a LARK's", x.can(0, 2, 0), 1);
        Due.is("a LARK's, the least", x.can(0, 2, 1), 4);
        x.hear(1, 36, true);
        Due.is("a SLOW one's: 12, 18", x.can(1, 2, 0), 2);
        Due.is("a SLOW one's, the least", x.can(1, 2, 1), 2);
        x.hear(2, 5, true);
        Due.is("an EGG's", x.can(2, 2, 0), 0);
        Due.is("an EGG's, the least", x.can(2, 2, 1), -5);
        x.hear(-1, 0, true);
        x.hear(2, 20, true);
        Due.is("an EGG's, any", x.can(2, 2, 0), 10);
        Due.is("v stays", x.of(0, 1), 9);
    }

    private static void withTests() {
        WoundEggs x = new WoundEggs();
        x.egg(0, 5, 30, 20);
        Due.is("store", Due.store(x, "late 3 s<10;late 4 m<20;late 5 v<2;late 1 b=1"), 0);
        x.hear(0, 12, true);
        Due.is("SETTINGS 9 and 3, and 12", x.can(0, 0, 0), 2);
        Due.is("the least", x.can(0, 0, 1), 9);
        x.smash(0, true);
        Due.is("as BROKEN as it is", x.can(0, 0, 1), 8);
        x.smash(0, false);
        x.set(0, 1, 11);
        x.hear(-1, 0, true);
        x.hear(0, 16, true);
        Due.is("v 0, 1", x.can(0, 2, 0), 2);
        x.hear(-1, 0, true);
        x.hear(0, 15, true);
        // REST 15 modulo a PERIOD below 20; 11 modulo one of 20 and more.
        Due.is("PERIODS", x.can(0, 1, 0), 19);
    }

    private static void odds() {
        WoundEggs x = new WoundEggs();
        Due.is("odds(0), no EGGS", x.odds(0), 1);
        Due.is("odds(1), no EGGS", x.odds(1), 1);
        x.egg(0, 0, 4, 3);
        Due.is("odds(0) of 4", x.odds(0), 3);
        Due.is("odds(1) of 4", x.odds(1), 4);
        x.egg(0, 0, 2, 0);
        Due.is("odds(0), never together", x.odds(0), 1);
        Due.is("odds(1), never together", x.odds(1), 4);
        x.set(1, 1, 1);
        Due.is("odds(0), one within the other", x.odds(0), 1);
        Due.is("odds(1), one within the other", x.odds(1), 2);
        x.egg(0, 0, 3, 2);
        Due.is("odds(0) with 3", x.odds(0), 1);
        Due.is("odds(1) with 3", x.odds(1), 3);
        x.smash(1, true);
        Due.is("odds(0), one BROKEN", x.odds(0), 1);
        Due.is("odds(1), one BROKEN", x.odds(1), 2);
        x.pass(17);
        Due.is("odds(1) on another DAY", x.odds(1), 2);
        x.egg(0, 0, 1, 0);
        Due.is("odds(0), never quiet", x.odds(0), 0);
        Due.is("odds(1), never quiet", x.odds(1), 1);
        Due.is("odds(2)", x.odds(2), WoundEggs.NO);
        Due.is("odds(-1)", x.odds(-1), WoundEggs.NO);
    }

    private static void farOdds() {
        WoundEggs x = new WoundEggs();
        int[] kinds = {5, 5, 2, 5, 5, 5};
        int[] periods = {30, 29, 29, 28, 27, 26};
        for (int e = 0; e < 6; e++) {
            x.egg(kinds[e], 0, periods[e], 29 - e);
        }
        // 60/61 * 58/59 * 57/58 * 56/57 * 54/55 * 52/53.
        Due.is("odds(0), far", x.odds(0), 1886976);
        Due.is("odds(1), far", x.odds(1), 2098217);
        WoundEggs y = new WoundEggs();
        int[] settings = {1, 2, 3, 5, 8, 15};
        for (int e = 0; e < 6; e++) {
            y.egg(5, 0, 30 - e, settings[e]);
        }
        // TURNS 61, 59, 57, 55, 53, 51, of which 57 and 51 meet.
        Due.is("odds(0), far", y.odds(0), 608459904);
        Due.is("odds(1), far", y.odds(1), 677724091);
        Due.is("together(63, 0)", y.together(63, 0), 207091890);
        Due.is("together(63, 1)", y.together(63, 1), 10165861365L);
    }

    private static void means() {
        WoundEggs x = new WoundEggs();
        Due.is("mean of none", x.mean(0, 0), WoundEggs.NO);
        x.egg(0, 0, 1, 0);
        x.egg(0, 0, 2, 0);
        x.egg(0, 0, 3, 0);
        Due.is("mean(0, 0)", x.mean(0, 0), 0);
        Due.is("mean(0, 1)", x.mean(0, 1), 1);
        Due.is("mean(6, 0)", x.mean(6, 0), 11);
        Due.is("mean(6, 1)", x.mean(6, 1), 3);
        Due.is("mean(2, 0)", x.mean(2, 0), 4);
        Due.is("mean(3, 0), 6 by 3", x.mean(3, 0), 2);
        Due.is("mean(3, 1)", x.mean(3, 1), 1);
        Due.is("mean(60, 0)", x.mean(60, 0), 110);
        Due.is("mean(61, 0)", x.mean(61, 0), WoundEggs.NO);
        Due.is("mean(-1, 0)", x.mean(-1, 0), WoundEggs.NO);
        Due.is("mean(0, 2)", x.mean(0, 2), WoundEggs.NO);
        Due.is("mean(0, -1)", x.mean(0, -1), WoundEggs.NO);
        x.pass(4);
        Due.is("mean(2, 0) from day 4, 11 by 3", x.mean(2, 0), 11);
        Due.is("WENT stays", x.told(5), 8);
    }
}
