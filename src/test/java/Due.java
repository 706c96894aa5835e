/** Counts the calls whose answer is not the one that is due. */
final class Due {
    private static int wrong = 0;
    private static int looked = 0;

    private Due() {
    }

    static void is(String call, long got, long due) {
        looked++;
        if (got != due) {
            wrong++;
            System.out.println(call + " answered " + got + ", due is " + due);
        }
    }

    static void isTrue(String what, boolean holds) {
        is(what, holds ? 1 : 0, 1);
    }

    /** Feeds a text and stores it: what store() answers. */
    static int store(WoundEggs x, String text) {
        for (int i = 0; i < text.length(); i++) {
            is("feed " + i + " of " + text, x.feed(text.charAt(i)), i + 1);
        }
        return x.store();
    }

    /** Lets many days go, at most 60 a call. */
    static void pass(WoundEggs x, int days) {
        int left = days;
        while (left > 0) {
            int n = Math.min(left, 60);
            int before = x.told(0);
            is("pass(" + n + ")", x.pass(n), before + n);
            left -= n;
        }
    }

    /** Ends the program: 1, if an answer was not the one that is due. */
    static void end() {
        System.out.println(looked + " answers looked at, " + wrong + " not as due");
        System.exit(wrong == 0 && looked > 0 ? 0 : 1);
    }
}
