import java.math.BigInteger;
import java.util.ArrayList;
import java.util.List;
import java.util.TreeSet;

/**
 * The document told once more, as slowly and plainly as can be, with the whole Java library: KINDS
 * are real classes, days are counted one by one, texts are read by trying every way to read them.
 */
final class Oracle {
    static final long NO = Long.MIN_VALUE;
    private static final int UNLIMITED = Integer.MAX_VALUE;

    private World now = new World();
    private World image = null;
    private final StringBuilder text = new StringBuilder();
    private final List<String> stores = new ArrayList<>();
    private List<Integer> trace = new ArrayList<>();
    private final Object[] tapes = new Object[6];

    // ---- eggs

    private static class Egg implements Cloneable {
        int number, v, period, setting, went, missed;
        boolean broken;
        int[] row = new int[4];
        List<Integer> trace;

        int kind() { return 0; }
        int turn() { return period; }
        int rest(int sum) { return mod(sum, turn()); }
        int ticks(int x) { trace.add(10); return x + number; }
        int stirs(int x) { trace.add(11); return ticks(x) - v; }
        int tells(int x) { trace.add(12); return stirs(x) * 2; }

        Egg copy() {
            try {
                Egg other = (Egg) clone();
                other.row = row.clone();
                return other;
            } catch (CloneNotSupportedException e) {
                throw new IllegalStateException(e);
            }
        }

        int number(char letter) {
            return switch (letter) {
                case 'p' -> number;
                case 'k' -> kind();
                case 'v' -> v;
                case 'm' -> period;
                case 's' -> setting;
                default -> broken ? 1 : 0;
            };
        }
    }

    private static class Lark extends Egg {
        @Override int kind() { return 1; }
        @Override int rest(int sum) { return super.rest(sum + v); }
        @Override int stirs(int x) { trace.add(20); return super.stirs(x) ^ 6; }
    }

    private static class Clerk extends Egg {
        @Override int kind() { return 2; }
        @Override int turn() { return 2 * period; }
        @Override int ticks(int x) { trace.add(30); return super.ticks(x * 3); }
    }

    private static class Slow extends Egg {
        @Override int kind() { return 3; }
        @Override int turn() { return period + v; }
        @Override int tells(int x) { trace.add(40); return super.tells(x) + stirs(1); }
    }

    private static final class Prior extends Lark {
        @Override int kind() { return 4; }
        @Override int rest(int sum) { return turn() - 1 - super.rest(sum); }
        @Override int ticks(int x) { trace.add(50); return -super.ticks(x); }
        @Override int stirs(int x) { trace.add(51); return super.stirs(x + 1); }
    }

    private static final class Bailiff extends Clerk {
        @Override int kind() { return 5; }
        @Override int turn() { return super.turn() + 1; }
        @Override int tells(int x) { trace.add(60); return super.tells(x - number); }
    }

    private static final class Told extends Slow {
        @Override int kind() { return 6; }
        @Override int rest(int sum) { return super.rest(sum + row[period % 4]); }
        @Override int stirs(int x) { trace.add(70); return super.stirs(x) + super.ticks(2); }
        @Override int ticks(int x) { trace.add(71); return super.ticks(x) ^ v; }
    }

    private static int mod(int n, int turn) {
        int rest = n;
        while (rest < 0) {
            rest += turn;
        }
        while (rest >= turn) {
            rest -= turn;
        }
        return rest;
    }

    // ---- all that the image keeps

    private static final class World {
        List<Egg> eggs = new ArrayList<>();
        int listening = 127;
        int day = 0;
        List<int[]> heard = new ArrayList<>();
        List<int[]> plan = new ArrayList<>();
        List<int[]> book = new ArrayList<>();
        String holds = null;

        World copy() {
            World other = new World();
            for (Egg egg : eggs) {
                other.eggs.add(egg.copy());
            }
            other.listening = listening;
            other.day = day;
            other.heard.addAll(heard);
            other.plan.addAll(plan);
            other.book.addAll(book);
            other.holds = holds;
            return other;
        }

        boolean has(int egg) {
            return egg >= 0 && egg < eggs.size();
        }

        int all() {
            int all = 0;
            if (holds != null) {
                for (String clause : holds.split(";")) {
                    if (clause.startsWith("all")) {
                        all = Integer.parseInt(clause.split(" ")[1]);
                    }
                }
            }
            return all;
        }

        int sum(Egg egg) {
            int sum = egg.setting + all();
            if (holds != null) {
                for (String clause : holds.split(";")) {
                    String[] parts = clause.split(" ");
                    if (parts.length == 3 && holdsFor(parts[2], egg)) {
                        sum += (parts[0].equals("late") ? 1 : -1) * Integer.parseInt(parts[1]);
                    }
                }
            }
            return sum;
        }

        int rest(Egg egg) {
            return egg.rest(sum(egg));
        }

        boolean due(Egg egg, int on) {
            return mod(on, egg.turn()) == rest(egg);
        }

        int going(int on) {
            int bits = 0;
            for (Egg egg : eggs) {
                if (!egg.broken && due(egg, on)) {
                    bits += 1 << egg.number;
                }
            }
            return bits;
        }

        void aDay(int most) {
            int bits = going(day);
            for (Egg egg : eggs) {
                if ((bits & (1 << egg.number)) != 0) {
                    egg.went = egg.went < most ? egg.went + 1 : egg.went;
                    if ((listening & (1 << (day % 7))) == 0) {
                        egg.missed = egg.missed < most ? egg.missed + 1 : egg.missed;
                    }
                }
            }
            day++;
        }

        World after(int days) {
            World other = copy();
            for (int i = 0; i < days; i++) {
                other.aDay(UNLIMITED);
            }
            return other;
        }

        int went() {
            return eggs.stream().mapToInt(e -> e.went).sum();
        }

        int missed() {
            return eggs.stream().mapToInt(e -> e.missed).sum();
        }
    }

    // ---- texts, by trying every way to read them

    private static final class Ways {
        final String text;
        int reach = 0;

        Ways(String text) {
            this.text = text;
        }

        TreeSet<Integer> one(TreeSet<Integer> from, String signs) {
            TreeSet<Integer> to = new TreeSet<>();
            for (int at : from) {
                if (at < text.length() && signs.indexOf(text.charAt(at)) >= 0) {
                    to.add(at + 1);
                } else {
                    reach = Math.max(reach, at);
                }
            }
            return to;
        }

        TreeSet<Integer> word(TreeSet<Integer> from, String word) {
            TreeSet<Integer> at = from;
            for (char c : word.toCharArray()) {
                at = one(at, "" + c);
            }
            return at;
        }

        TreeSet<Integer> number(TreeSet<Integer> from) {
            TreeSet<Integer> ends = one(from, "0123456789");
            ends.addAll(one(new TreeSet<>(ends), "0123456789"));
            return ends;
        }

        TreeSet<Integer> any(TreeSet<Integer> from, int within) {
            if (from.isEmpty()) {
                return new TreeSet<>();
            }
            TreeSet<Integer> ends = all(from, within);
            ends.addAll(any(one(ends, "|"), within));
            return ends;
        }

        TreeSet<Integer> all(TreeSet<Integer> from, int within) {
            if (from.isEmpty()) {
                return new TreeSet<>();
            }
            TreeSet<Integer> ends = factor(from, within);
            ends.addAll(all(one(ends, "&"), within));
            return ends;
        }

        TreeSet<Integer> factor(TreeSet<Integer> from, int within) {
            TreeSet<Integer> ends = number(one(one(from, "pkvmsb"), "<=>"));
            if (within < 4 && !from.isEmpty()) {
                ends.addAll(factor(one(from, "!"), within + 1));
                ends.addAll(one(any(one(from, "("), within + 1), ")"));
            }
            return ends;
        }

        TreeSet<Integer> clause(TreeSet<Integer> from) {
            TreeSet<Integer> ends = number(word(from, "all "));
            ends.addAll(any(one(number(word(from, "late ")), " "), 0));
            ends.addAll(any(one(number(word(from, "early ")), " "), 0));
            return ends;
        }

        /** The fault, or -1. */
        int fault() {
            TreeSet<Integer> at = new TreeSet<>();
            at.add(0);
            for (int i = 0; i < 10; i++) {
                TreeSet<Integer> ends = clause(at);
                for (int end : ends) {
                    if (end == text.length()) {
                        return -1;
                    }
                    reach = Math.max(reach, end);
                }
                at = one(ends, ";");
            }
            return reach;
        }
    }

    /** Whether an E, which is well told, holds. */
    private static boolean holdsFor(String e, Egg egg) {
        for (String sign : new String[] {"|", "&"}) {
            int depth = 0;
            for (int i = 0; i < e.length(); i++) {
                char c = e.charAt(i);
                depth += c == '(' ? 1 : c == ')' ? -1 : 0;
                if (depth == 0 && c == sign.charAt(0)) {
                    boolean left = holdsFor(e.substring(0, i), egg);
                    boolean right = holdsFor(e.substring(i + 1), egg);
                    return sign.equals("|") ? left || right : left && right;
                }
            }
        }
        if (e.charAt(0) == '!') {
            return !holdsFor(e.substring(1), egg);
        }
        if (e.charAt(0) == '(') {
            return holdsFor(e.substring(1, e.length() - 1), egg);
        }
        int value = egg.number(e.charAt(0));
        int n = Integer.parseInt(e.substring(2));
        return switch (e.charAt(1)) {
            case '<' -> value < n;
            case '=' -> value == n;
            default -> value > n;
        };
    }

    // ---- the calls

    int egg(int kind, int v, int period, int setting) {
        if (kind < 0 || kind > 6) return -1;
        if (v < 0 || v > 9 || period < 1 || period > 30 || setting < 0 || setting > 29) return -2;
        if (now.eggs.size() == 6) return -4;
        Egg egg = switch (kind) {
            case 0 -> new Egg();
            case 1 -> new Lark();
            case 2 -> new Clerk();
            case 3 -> new Slow();
            case 4 -> new Prior();
            case 5 -> new Bailiff();
            default -> new Told();
        };
        egg.number = now.eggs.size();
        egg.v = v;
        egg.period = period;
        egg.setting = setting;
        now.eggs.add(egg);
        return egg.number;
    }

    int of(int number, int what) {
        if (!now.has(number) || what < 0 || what > 9) return -1;
        Egg egg = now.eggs.get(number);
        return switch (what) {
            case 0 -> egg.kind();
            case 1 -> egg.v;
            case 2 -> egg.period;
            case 3 -> egg.setting;
            case 4 -> egg.broken ? 1 : 0;
            case 5 -> egg.went;
            case 6 -> egg.missed;
            case 7 -> egg.turn();
            case 8 -> now.rest(egg);
            default -> next(egg);
        };
    }

    private int next(Egg egg) {
        if (egg.broken) return -5;
        int in = 0;
        while (!now.due(egg, now.day + in)) {
            in++;
        }
        return in;
    }

    int set(int number, int what, int n) {
        if (!now.has(number) || (what != 0 && what != 1)) return -1;
        Egg egg = now.eggs.get(number);
        if (what == 0) {
            if (n < 1 || n > 30) return -2;
            int was = egg.period;
            egg.period = n;
            return was;
        }
        if (n < 0 || n > 29) return -2;
        int was = egg.setting;
        egg.setting = n;
        return was;
    }

    int smash(int number, boolean is) {
        if (!now.has(number)) return -1;
        boolean was = now.eggs.get(number).broken;
        now.eggs.get(number).broken = is;
        return was ? 1 : 0;
    }

    int listen(int bits) {
        if (bits < 0 || bits > 127) return -2;
        int was = now.listening;
        now.listening = bits;
        return was;
    }

    int row(int number, int part, int n) {
        if (!now.has(number) || part < 0 || part > 3) return -1;
        if (n < 0 || n > 9) return -2;
        Egg egg = now.eggs.get(number);
        if (!(egg instanceof Told)) return -3;
        int was = egg.row[part];
        egg.row[part] = n;
        return was;
    }

    int feed(int sign) {
        if (sign < 0 || sign > 127) return -2;
        if (text.length() == 100) return -4;
        text.append((char) sign);
        return text.length();
    }

    int store() {
        if (stores.size() == 6) return -4;
        String read = text.toString();
        text.setLength(0);
        int fault = new Ways(read).fault();
        if (fault >= 0) return -10 - fault;
        stores.add(read);
        now.holds = read;
        return stores.size() - 1;
    }

    int told(int what) {
        return switch (what) {
            case 0 -> now.day;
            case 1 -> now.all();
            case 2 -> now.listening;
            case 3 -> now.going(now.day);
            case 4 -> quiet();
            case 5 -> now.went();
            case 6 -> now.missed();
            default -> -1;
        };
    }

    private int quiet() {
        for (Egg egg : now.eggs) {
            // Some go off every day: saves the thousand days.
            if (!egg.broken && egg.turn() == 1) return -5;
        }
        for (int in = 0; in <= 1000; in++) {
            if (now.going(now.day + in) == 0) return in;
        }
        return -5;
    }

    int pass(int n) {
        if (n < 0 || n > 60) return -2;
        for (int i = 0; i < n; i++) {
            now.aDay(9999);
        }
        return now.day;
    }

    int on(int n, int what) {
        boolean of = what >= 10 && now.has(what - 10);
        if (!of && (what < 0 || what > 2)) return -1;
        if (n < 0 || n > 60) return -2;
        World then = now.after(n);
        if (of) return then.eggs.get(what - 10).went;
        return what == 0 ? then.going(then.day) : what == 1 ? then.went() : then.missed();
    }

    long often(int number, long n) {
        if (!now.has(number) || n < 0 || n > 1000000000L) return NO;
        Egg egg = now.eggs.get(number);
        if (egg.broken) return 0;
        int rest = now.rest(egg);
        // How many days below one are REST modulo TURN, less how many below this DAY.
        return Math.floorDiv(now.day + n - 1 - rest, (long) egg.turn())
                - Math.floorDiv(now.day - 1L - rest, (long) egg.turn());
    }

    private static long gcd(long a, long b) {
        return BigInteger.valueOf(a).gcd(BigInteger.valueOf(b)).longValueExact();
    }

    private boolean agree(List<Egg> eggs) {
        for (Egg a : eggs) {
            for (Egg b : eggs) {
                if ((now.rest(a) - now.rest(b)) % gcd(a.turn(), b.turn()) != 0) return false;
            }
        }
        return true;
    }

    private static long roundOf(List<Egg> eggs) {
        long round = 1;
        for (Egg egg : eggs) {
            round = Math.multiplyExact(round / gcd(round, egg.turn()), (long) egg.turn());
        }
        return round;
    }

    private List<Egg> of(int set) {
        List<Egg> eggs = new ArrayList<>();
        for (Egg egg : now.eggs) {
            if ((set & (1 << egg.number)) != 0) eggs.add(egg);
        }
        return eggs;
    }

    long together(int set, int what) {
        if (set < 0 || set > 63 || of(set).size() != Integer.bitCount(set)) return NO;
        if (what != 0 && what != 1) return NO;
        List<Egg> eggs = of(set);
        if (eggs.stream().anyMatch(e -> e.broken) || !agree(eggs)) return -5;
        if (what == 1) return roundOf(eggs);
        // From this DAY on, by steps that keep those that already agree.
        long day = now.day;
        long step = 1;
        for (Egg egg : eggs) {
            while (Math.floorMod(day, (long) egg.turn()) != now.rest(egg)) {
                day += step;
            }
            step = step / gcd(step, egg.turn()) * egg.turn();
        }
        return day;
    }

    int busy(int n, int what) {
        if (what < 0 || what > 2) return -1;
        if (n < 1 || n > 60) return -2;
        int most = 0;
        int first = 0;
        int week = 0;
        for (int in = n - 1; in >= 0; in--) {
            int bits = now.going(now.day + in);
            if (Integer.bitCount(bits) >= most) {
                most = Integer.bitCount(bits);
                first = in;
            }
            if (bits != 0) week |= 1 << ((now.day + in) % 7);
        }
        return what == 0 ? first : what == 1 ? most : week;
    }

    int hear(int number, int n, boolean goesOff) {
        if (number == -1) {
            now.heard.clear();
            return 0;
        }
        if (!now.has(number)) return -1;
        if (n < 0 || n > 60) return -2;
        if (now.heard.size() == 6) return -4;
        now.heard.add(new int[] {number, n, goesOff ? 1 : 0});
        return now.heard.size();
    }

    int can(int number, int which, int what) {
        if (!now.has(number) || which < 0 || which > 2 || what < 0 || what > 1) return -1;
        int[] least = {0, 1, 0};
        int[] most = {29, 30, 9};
        List<Integer> fit = new ArrayList<>();
        for (int n = least[which]; n <= most[which]; n++) {
            Egg egg = now.eggs.get(number).copy();
            if (which == 0) egg.setting = n;
            if (which == 1) egg.period = n;
            if (which == 2) egg.v = n;
            boolean all = true;
            for (int[] row : now.heard) {
                if (row[0] == number) all &= now.due(egg, now.day + row[1]) == (row[2] == 1);
            }
            if (all) fit.add(n);
        }
        return what == 0 ? fit.size() : fit.isEmpty() ? -5 : fit.get(0);
    }

    long odds(int part) {
        if (part != 0 && part != 1) return NO;
        List<Egg> whole = now.eggs.stream().filter(e -> !e.broken).toList();
        long round = roundOf(whole);
        long quiet = round <= 50000 ? quietOneByOne(whole, (int) round) : quietBySets(whole, round);
        return (part == 0 ? quiet : round) / gcd(quiet, round);
    }

    private long quietOneByOne(List<Egg> eggs, int round) {
        boolean[] goes = new boolean[round];
        for (Egg egg : eggs) {
            for (int day = now.rest(egg); day < round; day += egg.turn()) {
                goes[day] = true;
            }
        }
        long quiet = 0;
        for (boolean any : goes) {
            quiet += any ? 0 : 1;
        }
        return quiet;
    }

    private long quietBySets(List<Egg> whole, long round) {
        long quiet = 0;
        for (int set = 0; set < 64; set++) {
            List<Egg> eggs = of(set);
            if (eggs.size() == Integer.bitCount(set) && whole.containsAll(eggs) && agree(eggs)) {
                quiet += (eggs.size() % 2 == 0 ? 1 : -1) * (round / roundOf(eggs));
            }
        }
        return quiet;
    }

    long mean(int n, int part) {
        if (n < 0 || n > 60 || part < 0 || part > 1 || now.eggs.isEmpty()) return NO;
        long went = now.after(n).went();
        long many = now.eggs.size();
        return (part == 0 ? went : many) / gcd(went, many);
    }

    int plan(int what, int n) {
        if (what == -1) {
            now.plan.clear();
            return 0;
        }
        if (what < 0 || what > 3) return -1;
        if ((what == 1 || what == 2) && !now.has(n)) return -1;
        if (what == 3 && (n < 0 || n > 127)) return -2;
        if (now.plan.size() == 10) return -4;
        now.plan.add(new int[] {what, n});
        return now.plan.size();
    }

    int ends(int what) {
        if (what != 0 && what != 1) return -1;
        World then = now.copy();
        for (int[] row : now.plan) {
            switch (row[0]) {
                case 0 -> then.aDay(UNLIMITED);
                case 1 -> then.eggs.get(row[1]).broken = true;
                case 2 -> then.eggs.get(row[1]).broken = false;
                default -> then.listening = row[1];
            }
        }
        return what == 0 ? then.went() : then.missed();
    }

    int book(int number, int went) {
        if (number == -1) {
            now.book.clear();
            return 0;
        }
        if (!now.has(number)) return -1;
        if (went < 0 || went > 9999) return -2;
        if (now.book.size() == 8) return -4;
        now.book.add(new int[] {number, went});
        return now.book.size();
    }

    int looked() {
        for (int i = 0; i < now.book.size(); i++) {
            if (now.eggs.get(now.book.get(i)[0]).went != now.book.get(i)[1]) return i;
        }
        return -5;
    }

    int judge(int tape, int i) {
        if (tape < 0 || tape > 5) return -1;
        if (tapes[tape] != null && !(tapes[tape] instanceof long[])) return -12;
        if (now.eggs.isEmpty()) return -5;
        if (tapes[tape] == null || i < 0) return 100;
        long[] row = (long[]) tapes[tape];
        for (Egg egg : now.eggs) {
            if ((long) i + egg.number >= row.length) return 100 + egg.number;
            if (row[i + egg.number] != egg.went) return egg.number;
        }
        return -5;
    }

    int image() {
        image = now.copy();
        return now.eggs.size();
    }

    int undo() {
        if (image == null) return -3;
        now = image.copy();
        return now.eggs.size();
    }

    int act(int number, int act, int x) {
        trace = new ArrayList<>();
        if (!now.has(number) || act < 0 || act > 2) return 0;
        Egg egg = now.eggs.get(number);
        egg.trace = trace;
        return act == 0 ? egg.ticks(x) : act == 1 ? egg.stirs(x) : egg.tells(x);
    }

    int trace(int i) {
        return i < 0 || i >= trace.size() || i >= 20 ? -1 : trace.get(i);
    }

    int taken(int number, int k) {
        if (k < 0 || k > 6) return -2;
        if (!now.has(number)) return -11;
        Class<?>[] kinds = {Egg.class, Lark.class, Clerk.class, Slow.class, Prior.class,
            Bailiff.class, Told.class};
        Egg egg = now.eggs.get(number);
        return kinds[k].isInstance(egg) ? egg.kind() : -12;
    }

    int count(int what) {
        return switch (what) {
            case 0 -> now.eggs.size();
            case 1 -> stores.size();
            case 2 -> now.heard.size();
            case 3 -> now.plan.size();
            case 4 -> now.book.size();
            case 5 -> text.length();
            case 6 -> trace.size();
            default -> -2;
        };
    }

    int tape(int tape, int sort, int n) {
        if (tape < 0 || tape > 5) return -1;
        if (sort == -1) {
            tapes[tape] = null;
            return 1;
        }
        if (sort < 0 || sort > 4 || n > 60) return -2;
        if (n < 0) return -14;
        tapes[tape] = switch (sort) {
            case 0 -> new byte[n];
            case 1 -> new short[n];
            case 2 -> new int[n];
            case 3 -> new long[n];
            default -> new boolean[n];
        };
        return 1;
    }

    private int length(int tape) {
        return java.lang.reflect.Array.getLength(tapes[tape]);
    }

    int item(int tape, int i, long v) {
        if (tape < 0 || tape > 5) return -1;
        if (tapes[tape] == null) return -11;
        if (i < 0 || i >= length(tape)) return -13;
        if (tapes[tape] instanceof byte[] row) row[i] = (byte) v;
        if (tapes[tape] instanceof short[] row) row[i] = (short) v;
        if (tapes[tape] instanceof int[] row) row[i] = (int) v;
        if (tapes[tape] instanceof long[] row) row[i] = v;
        if (tapes[tape] instanceof boolean[] row) row[i] = v != 0;
        return 1;
    }

    long read(int tape, int i) {
        if (tape < 0 || tape > 5 || tapes[tape] == null || i < 0 || i >= length(tape)) return NO;
        if (tapes[tape] instanceof boolean[] row) return row[i] ? 1 : 0;
        return java.lang.reflect.Array.getLong(tapes[tape], i);
    }

    int shift(int tape, int i, int other, int j, int n) {
        if (tape < 0 || tape > 5 || other < 0 || other > 5) return -1;
        if (tapes[tape] == null || tapes[other] == null) return -11;
        if (tapes[tape].getClass() != tapes[other].getClass()) return -12;
        if (n < 0 || i < 0 || j < 0 || (long) i + n > length(tape) || (long) j + n > length(other)) {
            return -13;
        }
        System.arraycopy(tapes[tape], i, tapes[other], j, n);
        return n;
    }
}
