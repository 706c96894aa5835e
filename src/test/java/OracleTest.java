import java.util.Random;

/** Runs of calls drawn from fixed seeds, on the program and on the Oracle: all answers are alike. */
public final class OracleTest {
    private static final int RUNS = 2000, CALLS = 512;
    private static final String[] LETTERS = {"p", "k", "v", "m", "s", "b"};
    private static final String ODD_SIGNS = "lateryn 0123456789;&|!()<=>pkvmsbx\0\177";

    private final Random random;
    private final WoundEggs x = new WoundEggs();
    private final Oracle o = new Oracle();
    private int calls = 0;

    private OracleTest(long seed) {
        random = new Random(seed);
    }

    public static void main(String[] args) {
        for (int run = 1; run <= RUNS; run++) {
            new OracleTest(run).go(run);
        }
        Due.end();
    }

    private void go(int run) {
        // Some runs are of one theme, so that deep states come up as well as mixed ones.
        int theme = random.nextInt(6);
        int eggs = random.nextInt(8);
        for (int i = 0; i < eggs; i++) {
            egg(run);
        }
        if (random.nextInt(3) > 0) {
            text(run);
        }
        while (calls < CALLS) {
            if (random.nextInt(60) == 0 && calls < CALLS - 120) {
                text(run);
            }
            call(run, theme);
        }
    }

    private void due(int run, String call, long got, long due) {
        calls++;
        Due.is("run " + run + ", call " + calls + ": " + call, got, due);
    }

    private boolean rarely() {
        return random.nextInt(12) == 0;
    }

    /** Mostly a number in bounds; now and then one at or beyond an edge, or far out. */
    private int in(int least, int most) {
        int way = random.nextInt(40);
        int[] odd = {least - 1, most + 1, least, most, Integer.MIN_VALUE, Integer.MAX_VALUE, -1, 0};
        return way < 5 ? odd[random.nextInt(odd.length)]
            : least + random.nextInt(most - least + 1);
    }

    private void egg(int run) {
        int kind = in(0, 6);
        int v = in(0, 9);
        int period = random.nextBoolean() ? in(1, 30) : in(1, 6);
        int setting = in(0, 29);
        due(run, "egg(" + kind + ", " + v + ", " + period + ", " + setting + ")",
            x.egg(kind, v, period, setting), o.egg(kind, v, period, setting));
    }

    private String any(int depth) {
        StringBuilder made = new StringBuilder(all(depth));
        while (random.nextInt(4) == 0) {
            made.append('|').append(all(depth));
        }
        return made.toString();
    }

    private String all(int depth) {
        StringBuilder made = new StringBuilder(factor(depth));
        while (random.nextInt(4) == 0) {
            made.append('&').append(factor(depth));
        }
        return made.toString();
    }

    private String factor(int depth) {
        int way = random.nextInt(depth > 5 ? 2 : 5);
        if (way == 3) {
            return "!" + factor(depth + 1);
        }
        if (way == 4) {
            return "(" + any(depth + 1) + ")";
        }
        String number = random.nextBoolean() ? "" + random.nextInt(10) : "" + random.nextInt(31);
        return LETTERS[random.nextInt(6)] + "<=>".charAt(random.nextInt(3)) + number;
    }

    private String clause() {
        String n = "" + random.nextInt(random.nextBoolean() ? 10 : 100);
        return switch (random.nextInt(4)) {
            case 0 -> "all " + n;
            case 1 -> "early " + n + " " + any(0);
            default -> "late " + n + " " + any(0);
        };
    }

    private String told() {
        StringBuilder made = new StringBuilder(clause());
        int more = rarely() ? 10 : random.nextInt(4);
        for (int i = 0; i < more; i++) {
            made.append(';').append(rarely() || more == 10 ? "all " + i : clause());
        }
        if (random.nextInt(3) == 0 && made.length() > 0) {
            int at = random.nextInt(made.length());
            char sign = ODD_SIGNS.charAt(random.nextInt(ODD_SIGNS.length()));
            switch (random.nextInt(4)) {
                case 0 -> made.setLength(at);
                case 1 -> made.deleteCharAt(at);
                case 2 -> made.insert(at, sign);
                default -> made.setCharAt(at, sign);
            }
        }
        return made.toString();
    }

    private void text(int run) {
        String made = told();
        int most = rarely() ? 101 : Math.min(made.length(), 60);
        for (int i = 0; i < Math.min(made.length(), most) && calls < CALLS - 1; i++) {
            char sign = made.charAt(i);
            due(run, "feed(" + (int) sign + ")", x.feed(sign), o.feed(sign));
        }
        due(run, "store() of " + made, x.store(), o.store());
    }

    private void call(int run, int theme) {
        int way = random.nextInt(100);
        if (theme == 0 && way < 60) {
            tapes(run);
        } else if (theme == 1 && way < 70) {
            due(run, "pass(60)", x.pass(60), o.pass(60));
        } else if (way < 40) {
            change(run);
        } else if (way < 90) {
            ask(run);
        } else {
            tapes(run);
        }
    }

    private void change(int run) {
        int e = in(0, 5);
        boolean is = random.nextInt(3) == 0;
        switch (random.nextInt(17)) {
            case 0 -> {
                if (rarely()) {
                    egg(run);
                }
            }
            case 1, 2 -> {
                int what = in(0, 1);
                int n = in(0, 30);
                due(run, "set(" + e + ", " + what + ", " + n + ")", x.set(e, what, n),
                    o.set(e, what, n));
            }
            case 3, 4 -> due(run, "smash(" + e + ", " + is + ")", x.smash(e, is), o.smash(e, is));
            case 5 -> {
                int bits = in(0, 127);
                due(run, "listen(" + bits + ")", x.listen(bits), o.listen(bits));
            }
            case 6, 7 -> {
                int part = in(0, 3);
                int n = in(0, 9);
                due(run, "row(" + e + ", " + part + ", " + n + ")", x.row(e, part, n),
                    o.row(e, part, n));
            }
            case 8 -> {
                int sign = in(0, 127);
                if (rarely()) {
                    due(run, "feed(" + sign + ")", x.feed(sign), o.feed(sign));
                }
            }
            case 9, 10 -> {
                int n = in(0, 60);
                due(run, "pass(" + n + ")", x.pass(n), o.pass(n));
            }
            case 11, 12 -> {
                int who = rarely() ? -1 : e;
                int n = in(0, 60);
                due(run, "hear(" + who + ", " + n + ", " + is + ")", x.hear(who, n, is),
                    o.hear(who, n, is));
            }
            case 13 -> {
                int what = rarely() ? -1 : in(0, 3);
                int n = random.nextInt(3) == 0 ? in(0, 127) : e;
                due(run, "plan(" + what + ", " + n + ")", x.plan(what, n), o.plan(what, n));
            }
            case 14 -> {
                int who = rarely() ? -1 : e;
                int went = random.nextBoolean() ? Math.max(o.of(e, 5), 0) : in(0, 9999);
                due(run, "book(" + who + ", " + went + ")", x.book(who, went), o.book(who, went));
            }
            case 15 -> {
                if (random.nextInt(3) == 0) {
                    due(run, "image()", x.image(), o.image());
                }
            }
            default -> {
                if (random.nextInt(3) == 0) {
                    due(run, "undo()", x.undo(), o.undo());
                }
            }
        }
    }

    private void ask(int run) {
        int e = in(0, 5);
        int n = in(0, 60);
        switch (random.nextInt(18)) {
            case 0, 1, 2 -> {
                int what = in(0, 9);
                due(run, "of(" + e + ", " + what + ")", x.of(e, what), o.of(e, what));
            }
            case 3, 4 -> {
                int what = in(0, 6);
                due(run, "told(" + what + ")", x.told(what), o.told(what));
            }
            case 5, 6 -> {
                int what = random.nextBoolean() ? in(0, 2) : 10 + in(0, 5);
                due(run, "on(" + n + ", " + what + ")", x.on(n, what), o.on(n, what));
            }
            case 7 -> {
                long[] many = {n, 1000000000L, 1000000001L, -1, Long.MIN_VALUE, Long.MAX_VALUE,
                    random.nextInt(1000000000), random.nextInt(1000)};
                long days = many[random.nextInt(many.length)];
                due(run, "often(" + e + ", " + days + ")", x.often(e, days), o.often(e, days));
            }
            case 8, 9 -> {
                int set = in(0, 63);
                int what = in(0, 1);
                due(run, "together(" + set + ", " + what + ")", x.together(set, what),
                    o.together(set, what));
            }
            case 10 -> {
                int what = in(0, 2);
                due(run, "busy(" + n + ", " + what + ")", x.busy(n, what), o.busy(n, what));
            }
            case 11, 12 -> {
                int which = in(0, 2);
                int what = in(0, 1);
                due(run, "can(" + e + ", " + which + ", " + what + ")", x.can(e, which, what),
                    o.can(e, which, what));
            }
            case 13 -> {
                int part = in(0, 1);
                due(run, "odds(" + part + ")", x.odds(part), o.odds(part));
            }
            case 14 -> {
                int part = in(0, 1);
                due(run, "mean(" + n + ", " + part + ")", x.mean(n, part), o.mean(n, part));
            }
            case 15 -> {
                int what = in(0, 1);
                due(run, "ends(" + what + ")", x.ends(what), o.ends(what));
                due(run, "looked()", x.looked(), o.looked());
            }
            case 16 -> {
                int k = in(0, 6);
                due(run, "taken(" + e + ", " + k + ")", x.taken(e, k), o.taken(e, k));
                due(run, "count(" + k + ")", x.count(k), o.count(k));
            }
            default -> {
                int act = in(0, 2);
                int v = rarely() ? random.nextInt() : in(-20, 20);
                due(run, "act(" + e + ", " + act + ", " + v + ")", x.act(e, act, v),
                    o.act(e, act, v));
                int i = in(0, 12);
                due(run, "trace(" + i + ")", x.trace(i), o.trace(i));
                due(run, "count(6)", x.count(6), o.count(6));
            }
        }
    }

    private void tapes(int run) {
        int tape = in(0, 5);
        int i = random.nextBoolean() ? in(0, 9) : in(0, 60);
        switch (random.nextInt(6)) {
            case 0 -> {
                int sort = random.nextBoolean() ? 3 : in(-1, 4);
                due(run, "tape(" + tape + ", " + sort + ", " + i + ")", x.tape(tape, sort, i),
                    o.tape(tape, sort, i));
            }
            case 1, 2 -> {
                long v = rarely() ? random.nextLong() : rarely() ? random.nextInt()
                    : Math.max(o.of(in(0, 5), 5), 0);
                due(run, "item(" + tape + ", " + i + ", " + v + ")", x.item(tape, i, v),
                    o.item(tape, i, v));
            }
            case 3 -> due(run, "read(" + tape + ", " + i + ")", x.read(tape, i), o.read(tape, i));
            case 4 -> {
                int other = random.nextInt(3) == 0 ? tape : in(0, 5);
                int j = in(0, 9);
                int n = in(0, 9);
                due(run, "shift(" + tape + ", " + i + ", " + other + ", " + j + ", " + n + ")",
                    x.shift(tape, i, other, j, n), o.shift(tape, i, other, j, n));
            }
            default -> due(run, "judge(" + tape + ", " + i + ")", x.judge(tape, i),
                o.judge(tape, i));
        }
    }
}
