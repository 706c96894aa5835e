/** Promises 11 to 15: days. */
public final class DaysTest {
    public static void main(String[] args) {
        passing();
        caps();
        on();
        often();
        together();
        farTogether();
        busy();
        quietFarOff();
        Due.end();
    }

    private static void passing() {
        WoundEggs x = new WoundEggs();
        x.egg(0, 0, 3, 1);
        Due.is("pass(0)", x.pass(0), 0);
        Due.is("pass(-1)", x.pass(-1), -2);
        Due.is("pass(61)", x.pass(61), -2);
        Due.is("pass(1)", x.pass(1), 1);
        Due.is("WENT on day 1", x.of(0, 5), 0);
        Due.is("pass(1)", x.pass(1), 2);
        Due.is("WENT on day 2", x.of(0, 5), 1);
        Due.is("pass(60)", x.pass(60), 62);
        Due.is("WENT on day 62", x.of(0, 5), 21);
        Due.is("MISSED", x.of(0, 6), 0);
    }

    private static void caps() {
        WoundEggs x = new WoundEggs();
        x.egg(0, 0, 1, 0);
        x.egg(0, 0, 2, 0);
        x.listen(0);
        for (int i = 1; i <= 166; i++) {
            Due.is("pass " + i, x.pass(60), i * 60);
        }
        Due.is("WENT of 9960 days", x.of(0, 5), 9960);
        Due.is("on(60, 10), beyond 9999", x.on(60, 10), 10020);
        Due.is("on(60, 2), beyond 9999", x.on(60, 2), 10020 + 5010);
        x.pass(39);
        Due.is("WENT", x.of(0, 5), 9999);
        x.pass(60);
        Due.is("WENT, at most", x.of(0, 5), 9999);
        Due.is("MISSED, at most", x.of(0, 6), 9999);
        Due.is("WENT of all", x.told(5), 9999 + 5030);
        Due.is("on(0, 10)", x.on(0, 10), 9999);
        Due.is("on(1, 10)", x.on(1, 10), 10000);
        Due.is("on(60, 1)", x.on(60, 1), 10059 + 5060);
        Due.is("mean(2, 0)", x.mean(2, 0), (10001 + 5031) / 2);
        Due.is("mean(2, 1)", x.mean(2, 1), 1);
        x.plan(0, 0);
        x.plan(0, 0);
        Due.is("ends(0)", x.ends(0), 10001 + 5031);
        Due.is("ends(1)", x.ends(1), 10001 + 5031);
        Due.is("asked, nothing changed", x.told(5), 9999 + 5030);
        Due.is("book", x.book(0, 9999), 1);
        Due.is("looked", x.looked(), -5);
    }

    private static void on() {
        WoundEggs x = new WoundEggs();
        x.egg(0, 0, 2, 1);
        x.egg(0, 0, 3, 0);
        x.listen(1);
        Due.is("on(0, 0)", x.on(0, 0), 2);
        Due.is("on(1, 0)", x.on(1, 0), 1);
        Due.is("on(3, 0)", x.on(3, 0), 3);
        Due.is("on(60, 0)", x.on(60, 0), 2);
        Due.is("on(0, 1)", x.on(0, 1), 0);
        Due.is("on(8, 1)", x.on(8, 1), 7);
        Due.is("on(8, 2)", x.on(8, 2), 5);
        Due.is("on(8, 10)", x.on(8, 10), 4);
        Due.is("on(8, 11)", x.on(8, 11), 3);
        Due.is("on(8, 12)", x.on(8, 12), -1);
        Due.is("on(8, 9)", x.on(8, 9), -1);
        Due.is("on(8, 3)", x.on(8, 3), -1);
        Due.is("on(8, -1)", x.on(8, -1), -1);
        Due.is("on(61, 3)", x.on(61, 3), -1);
        Due.is("on(61, 0)", x.on(61, 0), -2);
        Due.is("on(-1, 0)", x.on(-1, 0), -2);
        Due.is("asked, nothing changed", x.told(0) + x.told(5) + x.told(6), 0);
    }

    private static void often() {
        WoundEggs x = new WoundEggs();
        x.egg(0, 0, 4, 2);
        long[] days = {0, 1, 2, 3, 6, 7, 10, 11, 1000000000};
        long[] dues = {0, 0, 0, 1, 1, 2, 2, 3, 250000000};
        for (int i = 0; i < days.length; i++) {
            Due.is("often in " + days[i], x.often(0, days[i]), dues[i]);
        }
        Due.is("often, too many", x.often(0, 1000000001), WoundEggs.NO);
        Due.is("often, too few", x.often(0, -1), WoundEggs.NO);
        Due.is("often of none", x.often(1, 1), WoundEggs.NO);
        Due.is("often of none", x.often(-1, 1), WoundEggs.NO);
        x.pass(3);
        Due.is("often from day 3", x.often(0, 3), 0);
        Due.is("often from day 3", x.often(0, 4), 1);
        x.smash(0, true);
        Due.is("often of a broken one", x.often(0, 100), 0);
        x.egg(0, 0, 1, 0);
        Due.is("often of one of 1", x.often(1, 1000000000), 1000000000);
    }

    private static void together() {
        WoundEggs x = new WoundEggs();
        Due.is("of no EGGS", x.together(0, 0), 0);
        Due.is("of none that is", x.together(1, 0), WoundEggs.NO);
        x.egg(0, 0, 4, 2);
        x.egg(0, 0, 6, 4);
        x.egg(0, 0, 6, 5);
        Due.is("together(3, 0)", x.together(3, 0), 10);
        Due.is("together(3, 1)", x.together(3, 1), 12);
        Due.is("together(1, 0)", x.together(1, 0), 2);
        x.set(0, 1, 4);
        x.set(1, 1, 0);
        Due.is("together(3, 0), REST 0", x.together(3, 0), 0);
        x.set(0, 1, 2);
        x.set(1, 1, 4);
        Due.is("together(1, 1)", x.together(1, 1), 4);
        Due.is("together(5, 0)", x.together(5, 0), -5);
        Due.is("together(5, 1)", x.together(5, 1), -5);
        Due.is("together(6, 1)", x.together(6, 1), -5);
        Due.is("together(8, 0)", x.together(8, 0), WoundEggs.NO);
        Due.is("together(-1, 0)", x.together(-1, 0), WoundEggs.NO);
        Due.is("together(64, 0)", x.together(64, 0), WoundEggs.NO);
        Due.is("together(3, 2)", x.together(3, 2), WoundEggs.NO);
        Due.is("together(3, -1)", x.together(3, -1), WoundEggs.NO);
        x.pass(10);
        Due.is("this DAY", x.together(3, 0), 10);
        Due.is("of no EGGS", x.together(0, 0), 10);
        Due.is("of no EGGS, again", x.together(0, 1), 1);
        x.pass(1);
        Due.is("behind this DAY", x.together(3, 0), 22);
        x.smash(1, true);
        Due.is("one is BROKEN", x.together(3, 0), -5);
        Due.is("one is BROKEN, again", x.together(3, 1), -5);
        Due.is("another is BROKEN", x.together(1, 0), 14);
    }

    private static void farTogether() {
        WoundEggs x = new WoundEggs();
        x.egg(5, 0, 30, 29);
        x.egg(5, 0, 29, 28);
        x.egg(2, 0, 29, 27);
        x.egg(5, 0, 28, 26);
        x.egg(5, 0, 27, 25);
        x.egg(5, 0, 26, 24);
        Due.is("together(63, 0)", x.together(63, 0), 9952435265L);
        Due.is("together(63, 1)", x.together(63, 1), 34683527010L);
    }

    private static void busy() {
        WoundEggs x = new WoundEggs();
        Due.is("busy of no EGGS", x.busy(60, 0), 0);
        Due.is("busy of no EGGS", x.busy(60, 1), 0);
        Due.is("busy of no EGGS", x.busy(60, 2), 0);
        x.egg(0, 0, 2, 1);
        x.egg(0, 0, 3, 1);
        x.egg(0, 0, 5, 1);
        Due.is("busy(1, 1), day 0", x.busy(1, 1), 0);
        x.set(1, 1, 0);
        Due.is("busy(1, 1), one on day 0", x.busy(1, 1), 1);
        Due.is("busy(1, 2), one on day 0", x.busy(1, 2), 1);
        Due.is("busy(3, 0), two on day 1", x.busy(3, 0), 1);
        x.set(1, 1, 1);
        x.smash(1, true);
        Due.is("busy(1, 1), BROKEN", x.busy(1, 1), 0);
        x.smash(1, false);
        x.pass(1);
        Due.is("busy(5, 0), on this DAY", x.busy(5, 0), 0);
        Due.is("busy(5, 1), on this DAY", x.busy(5, 1), 3);
        x.pass(1);
        Due.is("busy(1, 0)", x.busy(1, 0), 0);
        Due.is("busy(1, 1)", x.busy(1, 1), 0);
        Due.is("busy(5, 0)", x.busy(5, 0), 1);
        Due.is("busy(6, 0)", x.busy(6, 0), 5);
        Due.is("busy(10, 0), of several the first", x.busy(10, 0), 5);
        Due.is("busy(6, 1)", x.busy(6, 1), 2);
        Due.is("busy(29, 1)", x.busy(29, 1), 2);
        Due.is("busy(30, 1)", x.busy(30, 1), 3);
        Due.is("busy(60, 0)", x.busy(60, 0), 29);
        Due.is("busy(1, 2)", x.busy(1, 2), 0);
        Due.is("busy(2, 2)", x.busy(2, 2), 8);
        Due.is("busy(6, 2)", x.busy(6, 2), 1 + 8 + 16 + 32 + 64);
        x.smash(0, true);
        x.smash(1, true);
        // Days 6, 11, .. 61.
        Due.is("busy(5, 2)", x.busy(5, 2), 64);
        Due.is("busy(40, 2), 6 and 41 alike", x.busy(40, 2), 127);
        x.set(2, 0, 7);
        x.set(2, 1, 3);
        Due.is("busy(14, 2), two on day 3 of the week", x.busy(14, 2), 8);
        Due.is("busy(1, 3)", x.busy(1, 3), -1);
        Due.is("busy(0, -1)", x.busy(0, -1), -1);
        Due.is("busy(0, 0)", x.busy(0, 0), -2);
        Due.is("busy(61, 2)", x.busy(61, 2), -2);
    }

    private static void quietFarOff() {
        // On each day but those that are 0 modulo 8 one GOES OFF.
        WoundEggs x = new WoundEggs();
        x.egg(0, 0, 2, 1);
        x.egg(0, 0, 4, 2);
        x.egg(0, 0, 8, 4);
        Due.is("quiet on day 0", x.told(4), 0);
        x.pass(1);
        Due.is("quiet on day 8", x.told(4), 7);
        x.egg(0, 0, 16, 8);
        Due.is("quiet on day 16", x.told(4), 15);
        x.egg(2, 0, 8, 0);
        Due.is("never quiet", x.told(4), -5);
    }
}
