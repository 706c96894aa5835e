import java.util.Arrays;

/**
 * Eggs that were wound up to go off every so many days: what goes off when, how often, and with
 * what. The words in capitals are those of ../shared/DOC.md, which says what each call answers.
 */
public final class WoundEggs {

    public static final int NONE = -1, BAD = -2, STATE = -3, FULL = -4;
    public static final long NO = Long.MIN_VALUE;

    private static final int NEVER = -5;
    private static final int FAULTY = -10;
    private static final int NOTHING = -11, CAST = -12, PLACE = -13, SIZE = -14;

    // How many there can be.
    private static final int EGGS = 6, STORES = 6, SIGNS = 100, CLAUSES = 10;
    private static final int HEARD = 6, PLANNED = 10, BOOKED = 8;
    private static final int TAPES = 6, ITEMS = 60, BODIES_KEPT = 20;

    // The largest numbers that may be told.
    private static final int MOST_V = 9, MOST_PERIOD = 30, MOST_SETTING = 29, MOST_BITS = 127;
    private static final int MOST_WENT = 9999, MOST_DAY = 99999, MOST_DAYS = 60;
    private static final int MOST_QUIET = 1000, MOST_OFTEN = 1000000000;

    // Kinds.
    private static final int LARK = 1, CLERK = 2, SLOW = 3, PRIOR = 4, BAILIFF = 5, TOLD = 6;
    private static final int[] ABOVE = {-1, 0, 0, 0, 1, 2, 3};

    // Where the numbers of an EGG stand in its row; the first ten are asked for by the same numbers.
    private static final int KIND = 0, V = 1, PERIOD = 2, SETTING = 3, BROKEN = 4, WENT = 5;
    private static final int MISSED = 6, TURN = 7, REST = 8, NEXT = 9, ROW = 10, COLUMNS = 14;

    // What goes by a row of the PLAN.
    private static final int A_DAY = 0, IS_BROKEN = 1, IS_NOT = 2, IS_LISTENING = 3;

    // The signs of a STORE; the letters behind p stand as the columns do.
    private static final String LETTERS = "pkvmsb", RELATIONS = "<=>", DIGITS = "0123456789";

    // Sorts of TAPES.
    private static final int BYTES = 0, SHORTS = 1, INTS = 2, LONGS = 3, BOOLEANS = 4;

    private final State now = new State();
    private final State kept = new State();
    private final State trial = new State();
    private boolean imaged = false;
    private final Text text = new Text();
    private final Store[] stores = new Store[STORES];
    private int stored = 0;
    private final Acts acts = new Acts();
    private final Tape[] tapes = new Tape[TAPES];

    public WoundEggs() {
        for (int i = 0; i < STORES; i++) {
            stores[i] = new Store();
        }
        for (int i = 0; i < TAPES; i++) {
            tapes[i] = new Tape();
        }
    }

    // ---- eggs, stores

    public int egg(int kind, int v, int period, int setting) {
        if (!within(kind, 0, TOLD)) {
            return NONE;
        }
        if (!within(v, 0, MOST_V) || !within(period, 1, MOST_PERIOD)
                || !within(setting, 0, MOST_SETTING)) {
            return BAD;
        }
        if (now.eggs >= EGGS) {
            return FULL;
        }
        int[] row = now.egg[now.eggs];
        Arrays.fill(row, 0);
        row[KIND] = kind;
        row[V] = v;
        row[PERIOD] = period;
        row[SETTING] = setting;
        return now.eggs++;
    }

    public int of(int egg, int what) {
        if (!now.has(egg) || !within(what, KIND, NEXT)) {
            return NONE;
        }
        reckon(now);
        return now.egg[egg][what];
    }

    public int set(int egg, int what, int n) {
        if (!now.has(egg) || !within(what, 0, 1)) {
            return NONE;
        }
        boolean fits = what == 0 ? within(n, 1, MOST_PERIOD) : within(n, 0, MOST_SETTING);
        if (!fits) {
            return BAD;
        }
        return replace(now.egg[egg], what == 0 ? PERIOD : SETTING, n);
    }

    public int smash(int egg, boolean is) {
        if (!now.has(egg)) {
            return NONE;
        }
        return replace(now.egg[egg], BROKEN, is ? 1 : 0);
    }

    public int listen(int bits) {
        if (!within(bits, 0, MOST_BITS)) {
            return BAD;
        }
        int was = now.listening;
        now.listening = bits;
        return was;
    }

    public int row(int egg, int part, int n) {
        if (!now.has(egg) || !within(part, 0, 3)) {
            return NONE;
        }
        if (!within(n, 0, 9)) {
            return BAD;
        }
        if (now.egg[egg][KIND] != TOLD) {
            return STATE;
        }
        return replace(now.egg[egg], ROW + part, n);
    }

    public int feed(int sign) {
        if (!within(sign, 0, 127)) {
            return BAD;
        }
        return text.add(sign);
    }

    public int store() {
        if (stored >= STORES) {
            return FULL;
        }
        boolean isStore = stores[stored].understands(text);
        int fault = text.at;
        text.empty();
        if (!isStore) {
            return FAULTY - fault;
        }
        now.holds = stored;
        return stored++;
    }

    public int told(int what) {
        reckon(now);
        switch (what) {
            case 0:
                return now.day;
            case 1:
                Store store = holding(now);
                return store == null ? 0 : store.all;
            case 2:
                return now.listening;
            case 3:
                return now.goingOff(now.day);
            case 4:
                return now.firstQuiet();
            case 5:
                return now.total(WENT);
            case 6:
                return now.total(MISSED);
            default:
                return NONE;
        }
    }

    // ---- days

    public int pass(int n) {
        if (!within(n, 0, MOST_DAYS)) {
            return BAD;
        }
        if (now.day + n > MOST_DAY) {
            return STATE;
        }
        reckon(now);
        now.go(n, MOST_WENT);
        return now.day;
    }

    public int on(int n, int what) {
        if (!within(what, 0, 2) && !(what >= 10 && now.has(what - 10))) {
            return NONE;
        }
        if (!within(n, 0, MOST_DAYS)) {
            return BAD;
        }
        tryDays(n);
        switch (what) {
            case 0:
                return trial.goingOff(trial.day);
            case 1:
                return trial.total(WENT);
            case 2:
                return trial.total(MISSED);
            default:
                return trial.egg[what - 10][WENT];
        }
    }

    public long often(int egg, long n) {
        if (!now.has(egg) || !within(n, 0, MOST_OFTEN)) {
            return NO;
        }
        reckon(now);
        int next = now.egg[egg][NEXT];
        int turn = now.egg[egg][TURN];
        if (next < 0 || next >= n || turn < 1) {
            return 0;
        }
        return 1 + (n - 1 - next) / turn;
    }

    public long together(int set, int what) {
        if (!within(set, 0, (1 << now.eggs) - 1) || !within(what, 0, 1)) {
            return NO;
        }
        reckon(now);
        return now.meeting(set, what == 1);
    }

    public int busy(int n, int what) {
        if (!within(what, 0, 2)) {
            return NONE;
        }
        if (!within(n, 1, MOST_DAYS)) {
            return BAD;
        }
        reckon(now);
        return what == 2 ? now.weekdays(n) : now.busiest(n, what == 1);
    }

    // ---- heard, odds

    public int hear(int egg, int n, boolean goesOff) {
        if (egg == -1) {
            return now.heard.empty();
        }
        if (!now.has(egg)) {
            return NONE;
        }
        if (!within(n, 0, MOST_DAYS)) {
            return BAD;
        }
        return now.heard.add(egg, n, goesOff ? 1 : 0);
    }

    public int can(int egg, int which, int what) {
        if (!now.has(egg) || !within(which, 0, 2) || !within(what, 0, 1)) {
            return NONE;
        }
        boolean howMany = what == 0;
        switch (which) {
            case 0:
                return fitting(egg, SETTING, 0, MOST_SETTING, howMany);
            case 1:
                return fitting(egg, PERIOD, 1, MOST_PERIOD, howMany);
            default:
                return fitting(egg, V, 0, MOST_V, howMany);
        }
    }

    public long odds(int part) {
        if (!within(part, 0, 1)) {
            return NO;
        }
        reckon(now);
        long all = now.round();
        return inLowestTerms(now.quietDays(all, 0, 0, 1), all, part);
    }

    public long mean(int n, int part) {
        if (!within(n, 0, MOST_DAYS) || !within(part, 0, 1) || now.eggs == 0) {
            return NO;
        }
        tryDays(n);
        return inLowestTerms(trial.total(WENT), now.eggs, part);
    }

    // ---- plans, books

    public int plan(int what, int n) {
        if (what == -1) {
            return now.planned.empty();
        }
        if (!within(what, A_DAY, IS_LISTENING)) {
            return NONE;
        }
        if ((what == IS_BROKEN || what == IS_NOT) && !now.has(n)) {
            return NONE;
        }
        if (what == IS_LISTENING && !within(n, 0, MOST_BITS)) {
            return BAD;
        }
        return now.planned.add(what, n, 0);
    }

    public int ends(int what) {
        if (!within(what, 0, 1)) {
            return NONE;
        }
        trial.becomes(now);
        for (int i = 0; i < now.planned.count; i++) {
            tryRow(now.planned.rows[i]);
        }
        return trial.total(what == 0 ? WENT : MISSED);
    }

    public int book(int egg, int went) {
        if (egg == -1) {
            return now.booked.empty();
        }
        if (!now.has(egg)) {
            return NONE;
        }
        if (!within(went, 0, MOST_WENT)) {
            return BAD;
        }
        return now.booked.add(egg, went, 0);
    }

    public int looked() {
        for (int i = 0; i < now.booked.count; i++) {
            int[] row = now.booked.rows[i];
            if (now.has(row[0]) && now.egg[row[0]][WENT] != row[1]) {
                return i;
            }
        }
        return NEVER;
    }

    // ---- judging, the image, acts, tapes

    public int judge(int tape, int i) {
        if (!within(tape, 0, TAPES - 1)) {
            return NONE;
        }
        Tape told = tapes[tape];
        if (told.sort >= 0 && told.sort != LONGS) {
            return CAST;
        }
        for (int e = 0; e < now.eggs; e++) {
            long place = (long) i + e;
            if (i < 0 || place >= told.length) {
                return 100 + e;
            }
            if (told.items[(int) place] != now.egg[e][WENT]) {
                return e;
            }
        }
        return NEVER;
    }

    public int image() {
        kept.becomes(now);
        imaged = true;
        return now.eggs;
    }

    public int undo() {
        if (!imaged) {
            return STATE;
        }
        now.becomes(kept);
        return now.eggs;
    }

    public int act(int egg, int act, int x) {
        acts.ran = 0;
        if (!now.has(egg) || !within(act, 0, 2)) {
            return 0;
        }
        return acts.perform(now.egg[egg], egg, act, x);
    }

    public int trace(int i) {
        return within(i, 0, Math.min(acts.ran, BODIES_KEPT) - 1) ? acts.bodies[i] : NONE;
    }

    public int taken(int egg, int k) {
        if (!within(k, 0, TOLD)) {
            return BAD;
        }
        if (!now.has(egg)) {
            return NOTHING;
        }
        int kind = now.egg[egg][KIND];
        return isUnder(kind, k) ? kind : CAST;
    }

    public int count(int what) {
        switch (what) {
            case 0:
                return now.eggs;
            case 1:
                return stored;
            case 2:
                return now.heard.count;
            case 3:
                return now.planned.count;
            case 4:
                return now.booked.count;
            case 5:
                return text.length;
            case 6:
                return acts.ran;
            default:
                return BAD;
        }
    }

    public int tape(int tape, int sort, int n) {
        if (!within(tape, 0, TAPES - 1)) {
            return NONE;
        }
        if (sort == -1) {
            tapes[tape].becomes(-1, 0);
            return 1;
        }
        if (!within(sort, BYTES, BOOLEANS) || n > ITEMS) {
            return BAD;
        }
        if (n < 0) {
            return SIZE;
        }
        tapes[tape].becomes(sort, n);
        return 1;
    }

    public int item(int tape, int i, long v) {
        if (!within(tape, 0, TAPES - 1)) {
            return NONE;
        }
        Tape changed = tapes[tape];
        if (changed.sort < 0) {
            return NOTHING;
        }
        if (!within(i, 0, changed.length - 1)) {
            return PLACE;
        }
        changed.items[i] = changed.asItem(v);
        return 1;
    }

    public long read(int tape, int i) {
        // A TAPE that holds nothing is 0 long, so it has no place either.
        if (!within(tape, 0, TAPES - 1) || !within(i, 0, tapes[tape].length - 1)) {
            return NO;
        }
        return tapes[tape].items[i];
    }

    public int shift(int tape, int i, int other, int j, int n) {
        if (!within(tape, 0, TAPES - 1) || !within(other, 0, TAPES - 1)) {
            return NONE;
        }
        Tape from = tapes[tape];
        Tape to = tapes[other];
        if (from.sort < 0 || to.sort < 0) {
            return NOTHING;
        }
        if (from.sort != to.sort) {
            return CAST;
        }
        if (!from.hasRoom(i, n) || !to.hasRoom(j, n)) {
            return PLACE;
        }
        System.arraycopy(from.items, i, to.items, j, n);
        return n;
    }

    // ---- what the calls share

    /** The STORE that holds in a state, or null. */
    private Store holding(State state) {
        return within(state.holds, 0, stored - 1) ? stores[state.holds] : null;
    }

    private void reckon(State state) {
        state.reckonAll(holding(state));
    }

    /** Lets n DAYS go in the trial, from how all is now on; asked, so nothing is capped. */
    private void tryDays(int n) {
        trial.becomes(now);
        reckon(trial);
        trial.go(n, Integer.MAX_VALUE);
    }

    private void tryRow(int[] row) {
        int n = row[1];
        switch (row[0]) {
            case A_DAY:
                reckon(trial);
                trial.go(1, Integer.MAX_VALUE);
                break;
            case IS_LISTENING:
                trial.listening = n;
                break;
            default:
                if (trial.has(n)) {
                    trial.egg[n][BROKEN] = row[0] == IS_BROKEN ? 1 : 0;
                }
        }
    }

    /** By how many numbers, were they in a column of an EGG, all HEARD of it is so; or the least. */
    private int fitting(int egg, int column, int least, int most, boolean howMany) {
        trial.becomes(now);
        Store store = holding(trial);
        int fit = 0;
        for (int n = least; n <= most; n++) {
            trial.egg[egg][column] = n;
            trial.reckonOne(egg, store);
            if (trial.agrees(egg)) {
                if (!howMany) {
                    return n;
                }
                fit++;
            }
        }
        return howMany ? fit : NEVER;
    }

    private static boolean within(long n, long least, long most) {
        return n >= least && n <= most;
    }

    private static int replace(int[] row, int column, int n) {
        int was = row[column];
        row[column] = n;
        return was;
    }

    private static boolean isUnder(int kind, int k) {
        int above = kind;
        for (int up = 0; up < ABOVE.length && above >= 0; up++) {
            if (above == k) {
                return true;
            }
            above = ABOVE[above];
        }
        return false;
    }

    /** What n is more than the next lesser multiple of a size; 0 or more, for n below 0 too. */
    private static long modulo(long n, long size) {
        return size < 1 ? 0 : Math.floorMod(n, size);
    }

    private static long commonDivisor(long a, long b) {
        long big = a;
        long small = b;
        // Numbers of 64 bits need fewer than 100 steps.
        for (int step = 0; step < 100 && small != 0; step++) {
            long left = big % small;
            big = small;
            small = left;
        }
        return big;
    }

    private static long commonMultiple(long a, long b) {
        long divisor = commonDivisor(a, b);
        return divisor < 1 ? 1 : a / divisor * b;
    }

    private static long inLowestTerms(long above, long below, int part) {
        long divisor = commonDivisor(above, below);
        if (divisor < 1) {
            return 0;
        }
        return part == 0 ? above / divisor : below / divisor;
    }

    /** The least of rest, rest and size, .. that is otherRest modulo turn; -1: there is none. */
    private static long commonRest(long rest, long size, long otherRest, long turn) {
        for (long k = 0; k < turn; k++) {
            long tried = rest + k * size;
            if ((tried - otherRest) % turn == 0) {
                return tried;
            }
        }
        return -1;
    }

    /** Rows told by hand, three numbers each. */
    private static final class Rows {
        final int[][] rows;
        int count = 0;

        Rows(int most) {
            rows = new int[Math.max(most, 0)][3];
        }

        int empty() {
            count = 0;
            return 0;
        }

        int add(int a, int b, int c) {
            if (count >= rows.length) {
                return FULL;
            }
            int[] row = rows[count];
            row[0] = a;
            row[1] = b;
            row[2] = c;
            count++;
            return count;
        }

        void becomes(Rows other) {
            count = 0;
            for (int i = 0; i < other.count; i++) {
                int[] row = other.rows[i];
                add(row[0], row[1], row[2]);
            }
        }
    }

    /** All that THE IMAGE keeps. What is asked beyond today is tried on a state of its own. */
    private static final class State {
        int eggs = 0;
        final int[][] egg = new int[EGGS][COLUMNS];
        int listening = MOST_BITS;
        int day = 0;
        int holds = -1;
        final Rows heard = new Rows(HEARD);
        final Rows planned = new Rows(PLANNED);
        final Rows booked = new Rows(BOOKED);

        boolean has(int number) {
            return number >= 0 && number < eggs;
        }

        void becomes(State other) {
            eggs = other.eggs;
            for (int e = 0; e < eggs; e++) {
                System.arraycopy(other.egg[e], 0, egg[e], 0, COLUMNS);
            }
            listening = other.listening;
            day = other.day;
            holds = other.holds;
            heard.becomes(other.heard);
            planned.becomes(other.planned);
            booked.becomes(other.booked);
        }

        /** Works out TURN, REST and NEXT of all EGGS by the STORE that holds (null: none). */
        void reckonAll(Store store) {
            for (int e = 0; e < eggs; e++) {
                reckonOne(e, store);
            }
        }

        void reckonOne(int number, Store store) {
            int[] row = egg[number];
            int sum = row[SETTING];
            if (store != null) {
                sum += store.all + store.lateness(row, number);
            }
            row[TURN] = turnOf(row);
            row[REST] = restOf(row, sum);
            row[NEXT] = row[BROKEN] == 1 ? NEVER : (int) modulo(row[REST] - day, row[TURN]);
        }

        static int turnOf(int[] row) {
            switch (row[KIND]) {
                case CLERK:
                    return 2 * row[PERIOD];
                case BAILIFF:
                    return 2 * row[PERIOD] + 1;
                case SLOW:
                case TOLD:
                    return row[PERIOD] + row[V];
                default:
                    return row[PERIOD];
            }
        }

        static int restOf(int[] row, int sum) {
            int turn = row[TURN];
            switch (row[KIND]) {
                case LARK:
                    return (int) modulo(sum + row[V], turn);
                case PRIOR:
                    return turn - 1 - (int) modulo(sum + row[V], turn);
                case TOLD:
                    return (int) modulo(sum + row[ROW + (row[PERIOD] & 3)], turn);
                default:
                    return (int) modulo(sum, turn);
            }
        }

        /** Whether a day is REST modulo TURN of an EGG, BROKEN or not. */
        boolean isDue(int number, int on) {
            int turn = egg[number][TURN];
            return turn > 0 && (on - egg[number][REST]) % turn == 0;
        }

        /** Which EGGS GO OFF on a day (bits). */
        int goingOff(int on) {
            int bits = 0;
            for (int e = 0; e < eggs; e++) {
                if (egg[e][BROKEN] == 0 && isDue(e, on)) {
                    bits |= 1 << e;
                }
            }
            return bits;
        }

        int total(int column) {
            int sum = 0;
            for (int e = 0; e < eggs; e++) {
                sum += egg[e][column];
            }
            return sum;
        }

        /** Lets n DAYS go; WENT and MISSED become no more than most. */
        void go(int n, int most) {
            for (int i = 0; i < n; i++) {
                int bits = goingOff(day);
                boolean missed = (listening >> (day % 7) & 1) == 0;
                for (int e = 0; e < eggs; e++) {
                    if ((bits >> e & 1) == 1) {
                        egg[e][WENT] = Math.min(egg[e][WENT] + 1, most);
                        egg[e][MISSED] = Math.min(egg[e][MISSED] + (missed ? 1 : 0), most);
                    }
                }
                day++;
            }
        }

        /** In how many days the first is on which none GOES OFF. */
        int firstQuiet() {
            for (int d = 0; d <= MOST_QUIET; d++) {
                if (goingOff(day + d) == 0) {
                    return d;
                }
            }
            return NEVER;
        }

        /** In how many of the next n days most GO OFF, or how many do then. */
        int busiest(int n, boolean howMany) {
            int first = 0;
            int most = 0;
            for (int d = 0; d < n; d++) {
                int going = Integer.bitCount(goingOff(day + d));
                if (going > most) {
                    most = going;
                    first = d;
                }
            }
            return howMany ? most : first;
        }

        /** The days of the week (bits) on which any GOES OFF in the next n days. */
        int weekdays(int n) {
            int bits = 0;
            for (int d = 0; d < n; d++) {
                if (goingOff(day + d) != 0) {
                    bits |= 1 << ((day + d) % 7);
                }
            }
            return bits;
        }

        /** Whether all that was HEARD of an EGG is so. */
        boolean agrees(int number) {
            for (int i = 0; i < heard.count; i++) {
                int[] row = heard.rows[i];
                if (row[0] == number && isDue(number, day + row[1]) != (row[2] == 1)) {
                    return false;
                }
            }
            return true;
        }

        /** The first day on which all of a set (bits) GO OFF, or in how many days again. */
        long meeting(int set, boolean again) {
            long rest = 0;
            long size = 1;
            for (int e = 0; e < eggs; e++) {
                if ((set >> e & 1) == 1) {
                    int[] row = egg[e];
                    rest = row[BROKEN] == 1 ? -1 : commonRest(rest, size, row[REST], row[TURN]);
                    if (rest < 0) {
                        return NEVER;
                    }
                    size = commonMultiple(size, row[TURN]);
                }
            }
            return again ? size : day + modulo(rest - day, size);
        }

        /** After how many days all goes again as before: six TURNS, so below 61 to the sixth. */
        long round() {
            long size = 1;
            for (int e = 0; e < eggs; e++) {
                if (egg[e][BROKEN] == 0) {
                    size = commonMultiple(size, egg[e][TURN]);
                }
            }
            return size;
        }

        /** How many of all days that are rest modulo size no EGG from a number on GOES OFF on. */
        private long quietDays(long all, int from, long rest, long size) {
            if (size < 1) {
                return 0;
            }
            if (!has(from)) {
                return all / size;
            }
            long quiet = quietDays(all, from + 1, rest, size);
            int[] row = egg[from];
            if (row[BROKEN] == 1) {
                return quiet;
            }
            long both = commonRest(rest, size, row[REST], row[TURN]);
            if (both < 0) {
                return quiet;
            }
            return quiet - quietDays(all, from + 1, both, commonMultiple(size, row[TURN]));
        }
    }

    /** THE TEXT, and how far it is read. */
    private static final class Text {
        private final byte[] signs = new byte[SIGNS];
        int length = 0;
        int at = 0;

        int add(int sign) {
            if (length >= signs.length) {
                return FULL;
            }
            signs[length] = (byte) sign;
            length++;
            return length;
        }

        void empty() {
            length = 0;
        }

        /** The sign that comes; -1: none. */
        int next() {
            return at >= 0 && at < length ? signs[at] : -1;
        }

        // Each of these stays at the first sign that does not fit.

        boolean takeSign(int wanted) {
            if (next() != wanted) {
                return false;
            }
            at++;
            return true;
        }

        boolean takeWord(String word) {
            for (int i = 0; i < word.length(); i++) {
                if (!takeSign(word.charAt(i))) {
                    return false;
                }
            }
            return true;
        }

        /** Which of some signs comes; -1: none of them. */
        int takeOneOf(String some) {
            boolean comes = at >= 0 && at < length;
            int place = comes ? some.indexOf((char) signs[at]) : -1;
            if (place >= 0) {
                at++;
            }
            return place;
        }

        /** A number of 1 or 2 digits; -1: no digit comes. */
        int takeNumber() {
            int tens = takeOneOf(DIGITS);
            if (tens < 0) {
                return -1;
            }
            int ones = takeOneOf(DIGITS);
            return ones < 0 ? tens : tens * 10 + ones;
        }
    }

    /** CLAUSES, as they were read from THE TEXT. */
    private static final class Store {
        // An E is kept as its TESTS, with each operator behind what it joins.
        private static final int NOT = -1, AND = -2, OR = -3;
        private static final int MOST_WITHIN = 4;

        int all = 0;
        private int clauses = 0;
        private final int[] days = new int[CLAUSES];
        private final int[] ends = new int[CLAUSES];
        private final int[] tokens = new int[SIGNS];
        private int used = 0;

        /** Reads a text: whether it is a STORE; if not, the text is read as far as the FAULT. */
        boolean understands(Text text) {
            text.at = 0;
            all = 0;
            clauses = 0;
            used = 0;
            for (int c = 1; c <= CLAUSES; c++) {
                if (!readClause(text)) {
                    return false;
                }
                if (text.next() < 0) {
                    return true;
                }
                if (c == CLAUSES || !text.takeSign(';')) {
                    return false;
                }
            }
            return false;
        }

        private boolean readClause(Text text) {
            int first = text.next();
            String word = first == 'l' ? "late" : first == 'e' ? "early" : "all";
            if (!text.takeWord(word) || !text.takeSign(' ')) {
                return false;
            }
            int n = text.takeNumber();
            if (n < 0) {
                return false;
            }
            if (first == 'a') {
                all = n;
                return true;
            }
            if (!text.takeSign(' ') || !readAny(text, 0) || clauses >= CLAUSES) {
                return false;
            }
            days[clauses] = first == 'l' ? n : -n;
            ends[clauses] = used;
            clauses++;
            return true;
        }

        /** E, within some others. */
        private boolean readAny(Text text, int others) {
            for (int t = 0; t < SIGNS; t++) {
                if (!readOne(text, others)) {
                    return false;
                }
                for (int f = 0; f < SIGNS && text.takeSign('&'); f++) {
                    if (!readOne(text, others)) {
                        return false;
                    }
                    keep(AND);
                }
                if (t > 0) {
                    keep(OR);
                }
                if (!text.takeSign('|')) {
                    return true;
                }
            }
            return false;
        }

        /** F, within some others. */
        private boolean readOne(Text text, int others) {
            int first = text.next();
            if (first != '!' && first != '(') {
                return readTest(text);
            }
            if (others >= MOST_WITHIN || !text.takeSign(first)) {
                return false;
            }
            if (first == '(') {
                return readAny(text, others + 1) && text.takeSign(')');
            }
            if (!readOne(text, others + 1)) {
                return false;
            }
            keep(NOT);
            return true;
        }

        private boolean readTest(Text text) {
            int letter = text.takeOneOf(LETTERS);
            if (letter < 0) {
                return false;
            }
            int relation = text.takeOneOf(RELATIONS);
            if (relation < 0) {
                return false;
            }
            int n = text.takeNumber();
            if (n < 0) {
                return false;
            }
            keep(letter * 1000 + relation * 100 + n);
            return true;
        }

        private void keep(int token) {
            if (used < tokens.length) {
                tokens[used] = token;
                used++;
            }
        }

        /** The n of all late whose E holds for an EGG, less those of all early. */
        int lateness(int[] row, int number) {
            int sum = 0;
            int from = 0;
            for (int c = 0; c < clauses; c++) {
                if (holdsFor(row, number, from, ends[c])) {
                    sum += days[c];
                }
                from = ends[c];
            }
            return sum;
        }

        private boolean holdsFor(int[] row, int number, int from, int end) {
            // The latest answer is the lowest bit: no more than some 10 wait for an operator.
            int answers = 0;
            for (int i = from; i < end; i++) {
                int token = tokens[i];
                if (token == NOT) {
                    answers ^= 1;
                } else if (token == AND) {
                    answers = (answers >> 1) & (answers | ~1);
                } else if (token == OR) {
                    answers = (answers >> 1) | (answers & 1);
                } else {
                    answers = (answers << 1) | (passes(token, row, number) ? 1 : 0);
                }
            }
            return (answers & 1) == 1;
        }

        private static boolean passes(int token, int[] row, int number) {
            int letter = token / 1000;
            int relation = token / 100 % 10;
            int n = token % 100;
            int value = letter == 0 ? number : row[KIND + letter - 1];
            return relation == 0 ? value < n : relation == 1 ? value == n : value > n;
        }
    }

    /** What EGGS do by their KINDS' BODIES, and THE TRACE of it. */
    private static final class Acts {
        private static final int TICKS = 0, STIRS = 1, TELLS = 2, ACTS = 3;
        // By KIND, then by act; 0 is none.
        private static final int[] BODY = {
            10, 11, 12, 0, 20, 0, 30, 0, 0, 0, 0, 40, 50, 51, 0, 0, 0, 60, 71, 70, 0
        };
        // The longest chain of BODIES, that of a TOLD one's tells, is 6.
        private static final int MOST_DEEP = 20;

        final int[] bodies = new int[BODIES_KEPT];
        int ran = 0;
        private int kind = 0;
        private int v = 0;
        private int number = 0;

        int perform(int[] row, int egg, int act, int x) {
            kind = row[KIND];
            v = row[V];
            number = egg;
            return own(act, x, 0);
        }

        private int own(int act, int x, int deep) {
            return run(kind, act, x, deep);
        }

        /** Runs the first body of an act from a KIND on upward. */
        private int run(int from, int act, int x, int deep) {
            int its = withBody(from, act);
            if (its < 0 || deep > MOST_DEEP) {
                return 0;
            }
            int body = BODY[its * ACTS + act];
            int above = ABOVE[its];
            int next = deep + 1;
            begin(body);
            switch (body) {
                case 10:
                    return x + number;
                case 11:
                    return own(TICKS, x, next) - v;
                case 12:
                    return own(STIRS, x, next) * 2;
                case 20:
                    return run(above, STIRS, x, next) ^ 6;
                case 30:
                    return run(above, TICKS, x * 3, next);
                case 40:
                    return run(above, TELLS, x, next) + own(STIRS, 1, next);
                case 50:
                    return -run(above, TICKS, x, next);
                case 51:
                    return run(above, STIRS, x + 1, next);
                case 60:
                    return run(above, TELLS, x - number, next);
                case 70:
                    return run(above, STIRS, x, next) + run(above, TICKS, 2, next);
                case 71:
                    return run(above, TICKS, x, next) ^ v;
                default:
                    return 0;
            }
        }

        /** The first KIND from one on upward that has a body of an act; -1: none. */
        private static int withBody(int from, int act) {
            int its = from;
            for (int up = 0; up < ABOVE.length && within(its, 0, TOLD); up++) {
                if (BODY[its * ACTS + act] != 0) {
                    return its;
                }
                its = ABOVE[its];
            }
            return -1;
        }

        private void begin(int body) {
            if (ran < BODIES_KEPT) {
                bodies[ran] = body;
            }
            ran++;
        }
    }

    /** A row of a sort, or nothing (sort -1, no items). Its items are kept as longs. */
    private static final class Tape {
        int sort = -1;
        int length = 0;
        final long[] items = new long[ITEMS];

        void becomes(int newSort, int n) {
            sort = newSort;
            length = Math.min(n, ITEMS);
            Arrays.fill(items, 0);
        }

        long asItem(long told) {
            switch (sort) {
                case BYTES:
                    return (byte) told;
                case SHORTS:
                    return (short) told;
                case INTS:
                    return (int) told;
                case BOOLEANS:
                    return told != 0 ? 1 : 0;
                default:
                    return told;
            }
        }

        /** Whether n items stand from place i on. */
        boolean hasRoom(int i, int n) {
            return i >= 0 && n >= 0 && i <= length - n;
        }
    }
}
