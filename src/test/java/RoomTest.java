import java.lang.management.ManagementFactory;

/**
 * All calls of one run live in one room: what an object makes is made in its constructor, and its
 * calls make nothing. Also: no arguments make the Java machine throw.
 */
public final class RoomTest {
    private static final com.sun.management.ThreadMXBean THREADS =
        (com.sun.management.ThreadMXBean) ManagementFactory.getThreadMXBean();
    private static final int[] ODD = {Integer.MIN_VALUE, Integer.MIN_VALUE + 1, -101, -100, -15,
        -6, -5, -2, -1, 0, 1, 2, 3, 4, 5, 6, 7, 9, 10, 15, 16, 20, 29, 30, 59, 60, 61, 63, 64, 100,
        127, 128, 1000, 9999, 10000, 99999, Integer.MAX_VALUE - 1, Integer.MAX_VALUE};
    private static final String TEXT = "late 9 ((!(p=1)));early 5 m>3&v<8|!b=1&s>9;all 12";

    private static int at = 0;
    private static long answers = 0;

    public static void main(String[] args) {
        calls(new WoundEggs());
        long atMost = 0;
        for (int run = 0; run < 400; run++) {
            WoundEggs x = new WoundEggs();
            long before = made();
            calls(x);
            atMost = Math.max(atMost, made() - before);
        }
        Due.isTrue("bytes that 500 calls made, " + atMost, atMost < 4096);
        long before = made();
        new WoundEggs();
        long bytes = made() - before;
        Due.isTrue("bytes that an object takes, " + bytes, bytes < 20000);
        Due.isTrue("some answers", answers != 0);
        Due.end();
    }

    private static long made() {
        return THREADS.getThreadAllocatedBytes(Thread.currentThread().getId());
    }

    private static int odd() {
        at = (int) ((at * 1103515245L + 12345) & 0x7fffffff);
        return ODD[(at >> 8) % ODD.length];
    }

    private static int low(int below) {
        return Math.floorMod(odd(), below);
    }

    private static void calls(WoundEggs x) {
        for (int e = 0; e < 6; e++) {
            answers += x.egg(low(7), low(10), 1 + low(30), low(30));
        }
        for (int i = 0; i < TEXT.length(); i++) {
            answers += x.feed(TEXT.charAt(i));
        }
        answers += x.store();
        for (int i = 0; i < 12; i++) {
            changes(x);
            asks(x);
        }
    }

    private static void changes(WoundEggs x) {
        answers += x.egg(odd(), odd(), odd(), odd());
        answers += x.set(low(6), odd(), odd());
        answers += x.smash(odd(), low(2) == 0);
        answers += x.listen(odd());
        answers += x.row(odd(), odd(), odd());
        answers += x.feed(odd());
        answers += x.store();
        answers += x.pass(odd());
        answers += x.hear(odd(), odd(), low(2) == 0);
        answers += x.plan(odd(), odd());
        answers += x.book(odd(), odd());
        answers += x.image();
        answers += x.tape(odd(), odd(), odd());
        answers += x.tape(low(6), low(5), low(61));
        answers += x.item(low(6), odd(), odd() * 123456789L);
        answers += x.shift(low(6), odd(), low(6), odd(), odd());
        answers += x.undo();
    }

    private static void asks(WoundEggs x) {
        answers += x.of(odd(), odd());
        answers += x.of(low(6), 9);
        answers += x.told(odd());
        answers += x.on(odd(), odd());
        answers += x.often(odd(), odd() * 1000L);
        answers += x.together(odd(), odd());
        answers += x.together(63, low(2));
        answers += x.busy(odd(), odd());
        answers += x.can(low(6), odd(), odd());
        answers += x.odds(odd());
        answers += x.odds(low(2));
        answers += x.mean(odd(), low(2));
        answers += x.ends(odd());
        answers += x.looked();
        answers += x.judge(odd(), odd());
        answers += x.act(low(6), odd(), odd());
        answers += x.act(odd(), low(3), odd());
        answers += x.trace(odd());
        answers += x.taken(odd(), odd());
        answers += x.count(odd());
        answers += x.read(odd(), odd());
    }
}
