import java.util.function.IntToLongFunction;

/** Counts the calls whose answer is not the one that is due. */
final class Due {
    private static int wrong = 0;
    private static int looked = 0;

    private Due() {
    }

    static void is(String call, long got, long due) {
        looked++;
        if (got != due) {
            wrong++;
            System.out.println(call + " answered " + got + ", due is " + due);
        }
    }

    static void isTrue(String what, boolean holds) {
        is(what, holds ? 1 : 0, 1);
    }

    static void isAlike(String what, String got, String due) {
        looked++;
        if (!got.equals(due)) {
            wrong++;
            System.out.println(what + ": " + got + ", due is " + due);
        }
    }

    /** Each of some numbers is answered by a refusal. */
    static void refuses(String words, long refusal, IntToLongFunction call, int... refused) {
        for (int n : refused) {
            is(words + ", " + n, call.applyAsLong(n), refusal);
        }
    }

    /** Each number from the least to the most is taken: none is answered by a refusal. */
    static void takes(String words, long refusal, IntToLongFunction call, int least, int most) {
        for (int n = least; n <= most; n++) {
            isTrue(words + " takes " + n, call.applyAsLong(n) != refusal);
        }
    }

    /** Numbers from the least to the most are taken; those next to them and far out are not. */
    static void edges(String words, long refusal, IntToLongFunction call, int least, int most) {
        takes(words, refusal, call, least, most);
        refuses(words, refusal, call, least - 1, most + 1, Integer.MIN_VALUE, Integer.MAX_VALUE);
    }

    /** Feeds a text and stores it: what store() answers. */
    static int store(WoundEggs x, String text) {
        for (int i = 0; i < text.length(); i++) {
            is("feed " + i + " of " + text, x.feed(text.charAt(i)), i + 1);
        }
        return x.store();
    }

    /** Lets many days go, at most 60 a call. */
    static void pass(WoundEggs x, int days) {
        int left = days;
        while (left > 0) {
            int n = Math.min(left, 60);
            int before = x.told(0);
            is("pass(" + n + ")", x.pass(n), before + n);
            left -= n;
        }
    }

    /** Ends the program: 1, if an answer was not the one that is due. */
    static void end() {
        System.out.println(looked + " answers looked at, " + wrong + " not as due");
        System.exit(wrong == 0 && looked > 0 ? 0 : 1);
    }
}
