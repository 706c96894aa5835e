import java.util.Set;

/** The limits and refusals of promises 8 and 9, and of what the terms tell of STORES, one by one. */
public final class StoreLimitsTest {
    private static final int BAD = -2, FULL = -4;
    private static final int TAKEN = -10;

    public static void main(String[] args) {
        feed();
        feedAnswersTheFirstNamed();
        hundredBytes();
        endsTooEarly();
        signsThatNeverCome();
        signsOfOtherPlaces();
        clauses();
        digits();
        blanks();
        withinFour();
        withinFourAgain();
        numbers();
        letters();
        numbersOfEggs();
        kindsOfEggs();
        operators();
        sixStores();
        sixStoresAndFaults();
        faultsChangeNothing();
        newestHolds();
        allIsTheLast();
        Due.end();
    }

    /** The place of the FAULT of a text; TAKEN: it is a STORE. */
    private static void fault(String text, int due) {
        Due.is("store() of " + text, Due.store(new WoundEggs(), text), due == TAKEN ? 0 : -10 - due);
    }

    // ---- promise 8

    private static WoundEggs fed(int many) {
        WoundEggs x = new WoundEggs();
        for (int i = 1; i <= many; i++) {
            Due.is("feed, how many it has", x.feed('a'), i);
        }
        return x;
    }

    private static void feed() {
        Due.edges("feed, BAD", BAD, sign -> new WoundEggs().feed(sign), 0, 127);
        Due.is("the hundredth", fed(99).feed('a'), 100);
        Due.is("a 101st, FULL", fed(100).feed('a'), FULL);
        WoundEggs x = fed(100);
        Due.is("FULL", x.feed(0), FULL);
        Due.is("bytes", x.count(5), 100);
        Due.is("a fault", x.store(), -11);
        Due.is("empty then", x.count(5), 0);
        Due.is("the first again", x.feed('a'), 1);
    }

    private static void feedAnswersTheFirstNamed() {
        Due.is("BAD ahead of FULL", fed(100).feed(128), BAD);
        Due.is("BAD ahead of FULL", fed(100).feed(-1), BAD);
        WoundEggs x = fed(1);
        Due.is("BAD", x.feed(128), BAD);
        Due.is("nothing came", x.feed('l'), 2);
        Due.is("all of it is read, al", x.store(), -12);
    }

    // ---- promise 9: texts

    private static void hundredBytes() {
        String most = "late 12 " + "p=0|".repeat(22);
        fault(most + "p=1", TAKEN);
        fault(most + "p=12", TAKEN);
        fault(most + "p=1;", 100);
        fault(most + "p=1&", 100);
        fault(most + "p=1x", 99);
        fault(most + "p=xx", 98);
        fault(most + "xxxx", 96);
        WoundEggs x = new WoundEggs();
        x.egg(0, 0, 30, 0);
        x.egg(0, 0, 30, 0);
        Due.is("the 100th byte is read", Due.store(x, "late 12 " + "p=9|".repeat(22) + "p=01"), 0);
        Due.is("REST, 0 is not 1", x.of(0, 8), 0);
        Due.is("REST", x.of(1, 8), 12);
    }

    /** A text that is cut is a STORE where one may end, and else has its FAULT at its end. */
    private static void endsTooEarly() {
        cut("all 12", Set.of(5, 6));
        cut("late 12 p=10", Set.of(11, 12));
        cut("early 1 p>1&k<2|v=3", Set.of(11, 15, 19));
        cut("late 1 !!p=1", Set.of(12));
        cut("late 1 (p=1)", Set.of(12));
        cut("late 1 !(p=1|(k=2&v=3))", Set.of(23));
        cut("late 12 !(p=0|k<12)&v>3;early 4 b=1;all 05", Set.of(19, 23, 35, 41, 42));
    }

    private static void cut(String text, Set<Integer> ends) {
        for (int length = 0; length <= text.length(); length++) {
            fault(text.substring(0, length), ends.contains(length) ? TAKEN : length);
        }
    }

    /** A sign that comes nowhere in a STORE is the FAULT wherever it stands. */
    private static void signsThatNeverCome() {
        String text = "late 12 !(p=0|k<12)&v>3;early 4 b=1;all 05";
        for (char sign : new char[] {'x', 'L', '\t', '\n', 0, 127, ',', ':', '/', '?'}) {
            for (int at = 0; at <= text.length(); at++) {
                fault(text.substring(0, at) + sign + text.substring(at), at);
            }
        }
    }

    private static void signsOfOtherPlaces() {
        fault(";", 0);
        fault("p=1", 0);
        fault("1", 0);
        fault("ll", 1);
        fault("ea late", 2);
        fault("eall 1", 2);
        fault("aarly", 1);
        fault("late;", 4);
        fault("late p=1", 5);
        fault("late 1p=1", 6);
        fault("late 1 1", 7);
        fault("late 1 all", 7);
        fault("late 1 <1", 7);
        fault("late 1 pp=1", 8);
        fault("late 1 p1", 8);
        fault("late 1 p 1", 8);
        fault("late 1 =1", 7);
        fault("late 1 p==1", 9);
        fault("late 1 p<=1", 9);
        fault("late 1 p=-1", 9);
        fault("late 1 p=m", 9);
        fault("late 1 p=1p=2", 10);
        fault("late 1 p=1(p=2)", 10);
        fault("late 1 p=1!", 10);
        fault("late 1 p=1)", 10);
        fault("late 1 (p=1))", 12);
        fault("late 1 (p=1(", 11);
        fault("late 1 (p=1;", 11);
        fault("late 1 )", 7);
        fault("late 1 ()", 8);
        fault("late 1 !;", 8);
        fault("late 1 !)", 8);
        fault("late 1 &p=1", 7);
        fault("late 1 |p=1", 7);
        fault("late 1 p=1&|p=1", 11);
        fault("late 1 p=1|&p=1", 11);
        fault("late 1 p=1&;", 11);
        fault("all 1|p=1", 5);
        fault("all 1&", 5);
        fault("all 1)", 5);
        fault("all p", 4);
    }

    private static void clauses() {
        String most = "all 1" + ";all 1".repeat(9);
        fault("", 0);
        fault("all 1", TAKEN);
        fault(most, TAKEN);
        fault(most + ";", 59);
        fault(most + ";all 1", 59);
        fault(most + "2", TAKEN);
        fault(most + "23", 60);
        fault(most.substring(6) + ";", 54);
        fault(";all 1", 0);
        fault("all 1;;all 1", 6);
        String tests = "late 1 p=1" + ";all 1".repeat(8);
        fault(tests + ";late 1 p=1", TAKEN);
        fault(tests + ";late 1 p=1;", 69);
        fault(tests + ";late 1 p=1;late 1 p=1", 69);
    }

    private static void digits() {
        String[] ahead = {"all ", "late 1 p=", "early 1 b>", "late 1 (s<10&v<"};
        String[] behind = {"", "", "", ")"};
        for (int i = 0; i < ahead.length; i++) {
            int at = ahead[i].length();
            fault(ahead[i] + behind[i], at);
            fault(ahead[i] + "0" + behind[i], TAKEN);
            fault(ahead[i] + "9" + behind[i], TAKEN);
            fault(ahead[i] + "00" + behind[i], TAKEN);
            fault(ahead[i] + "99" + behind[i], TAKEN);
            fault(ahead[i] + "100" + behind[i], at + 2);
            fault(ahead[i] + "000" + behind[i], at + 2);
        }
        for (String word : new String[] {"late ", "early "}) {
            int at = word.length();
            fault(word + " p=1", at);
            fault(word + "0 p=1", TAKEN);
            fault(word + "99 p=1", TAKEN);
            fault(word + "100 p=1", at + 2);
        }
    }

    /** One blank ahead of each part behind the word, and nowhere else. */
    private static void blanks() {
        String[] texts = {"late 1 !(p=1&k=2)|v=3;all 4", "early 1 m>12;late 3 s<4"};
        for (String text : texts) {
            fault(text, TAKEN);
            for (int at = 0; at <= text.length(); at++) {
                boolean isBlank = at < text.length() && text.charAt(at) == ' ';
                // Ahead of a blank one more is taken first, and the FAULT is that which was there.
                fault(text.substring(0, at) + " " + text.substring(at), isBlank ? at + 1 : at);
                if (isBlank) {
                    fault(text.substring(0, at) + text.substring(at + 1), at);
                }
            }
        }
    }

    // ---- promise 9: ( and !

    /** Signs ( and ! by the bits of a number, a TEST, and the ) that are due. */
    private static String nest(int many, int bits) {
        StringBuilder made = new StringBuilder();
        for (int i = 0; i < many; i++) {
            made.append((bits >> i & 1) == 1 ? '(' : '!');
        }
        return made.append("p=1").append(")".repeat(Integer.bitCount(bits))).toString();
    }

    private static void withinFour() {
        for (int many = 1; many <= 4; many++) {
            for (int bits = 0; bits < 1 << many; bits++) {
                fault("late 1 " + nest(many, bits), TAKEN);
                fault("late 1 k=1&" + nest(many, bits) + "|v=1", TAKEN);
            }
        }
        for (int bits = 0; bits < 1 << 5; bits++) {
            fault("late 1 " + nest(5, bits), 11);
            fault("late 1 k=1&" + nest(5, bits), 15);
            fault("all 1;early 22 v<9|" + nest(5, bits), 23);
        }
        for (int bits = 0; bits < 1 << 6; bits++) {
            fault("late 1 " + nest(6, bits), 11);
        }
    }

    /** Those that stand beside, or are over, are no others within which one stands. */
    private static void withinFourAgain() {
        for (int bits = 0; bits < 1 << 4; bits++) {
            String most = nest(4, bits);
            fault("late 1 " + most + "&" + most + "|" + most, TAKEN);
            fault("late 1 " + most + ";early 1 " + most, TAKEN);
        }
        fault("late 1 (p=1)&(p=1)&(p=1)&(p=1)&(p=1)&(p=1)", TAKEN);
        fault("late 1 !p=1|!p=1|!p=1|!p=1|!p=1|!p=1", TAKEN);
        fault("late 1 !(p=1)&!!!!p=1", TAKEN);
        fault("late 1 (!p=1&!p=1&!!!p=1)", TAKEN);
        fault("late 1 (!p=1&!p=1&!!!!p=1)", 21);
        fault("late 1 (((!p=1|(p=1))))", TAKEN);
        fault("late 1 (((!p=1|!!p=1)))", 16);
        fault("late 1 (((!p=1|((p=1)))))", 16);
        fault("late 1 !!!(!p=1)", 11);
        fault("late 1 !!!(p=1)&!!!(p=1&(p=1))", 24);
    }

    // ---- promise 9: what holds

    /** Whether an E holds for EGG 1. */
    private static void holds(WoundEggs x, String e, boolean due) {
        Due.is("store of " + e, Due.store(x, "late 7 " + e), x.count(1) - 1);
        Due.is(e, x.of(1, 8), (x.of(1, 3) + (due ? 7 : 0)) % 30);
    }

    private static WoundEggs pair() {
        WoundEggs x = new WoundEggs();
        x.egg(0, 0, 30, 0);
        x.egg(1, 0, 30, 9);
        return x;
    }

    /** TESTS by the numbers next to what an EGG has. */
    private static void letter(char letter, int has, boolean isBroken) {
        for (int n = Math.max(has - 1, 0); n <= has + 1; n++) {
            for (char relation : new char[] {'<', '=', '>'}) {
                WoundEggs x = pair();
                x.smash(1, isBroken);
                boolean due = relation == '<' ? n > has : relation == '=' ? n == has : n < has;
                holds(x, "" + letter + relation + n, due);
            }
        }
    }

    private static void letters() {
        letter('p', 1, false);
        letter('k', 1, false);
        letter('v', 0, false);
        letter('m', 30, false);
        letter('s', 9, false);
        letter('b', 0, false);
        letter('b', 1, true);
    }

    /** TESTS by the number of each EGG, and by its KIND. */
    private static void numbersOfEggs() {
        for (int n = 0; n <= 7; n++) {
            for (char relation : new char[] {'<', '=', '>'}) {
                WoundEggs x = new WoundEggs();
                for (int e = 0; e <= 5; e++) {
                    x.egg(0, 0, 30, e);
                }
                Due.is("store", Due.store(x, "late 9 p" + relation + n), 0);
                for (int e = 0; e <= 5; e++) {
                    boolean due = relation == '<' ? e < n : relation == '=' ? e == n : e > n;
                    Due.is("EGG " + e + " by p" + relation + n, x.of(e, 8), due ? e + 9 : e);
                }
            }
        }
    }

    private static void kindsOfEggs() {
        for (int kind = 0; kind <= 6; kind++) {
            WoundEggs x = new WoundEggs();
            x.egg(kind, 0, 30, 0);
            int before = x.of(0, 8);
            Due.is("store", Due.store(x, "late 9 k=" + kind), 0);
            Due.is("KIND " + kind, x.of(0, 8), kind == 4 ? before - 9 : before + 9);
            Due.is("store", Due.store(x, "late 9 k<" + kind + "|k>" + kind), 1);
            Due.is("no other KIND, not one above", x.of(0, 8), before);
        }
    }

    private static void numbers() {
        holds(pair(), "m<99", true);
        holds(pair(), "m=99", false);
        holds(pair(), "m>99", false);
        holds(pair(), "m>00", true);
        holds(pair(), "m=30", true);
        holds(pair(), "m=3", false);
        holds(pair(), "s=09", true);
        holds(pair(), "s=9", true);
        holds(pair(), "s=90", false);
        holds(pair(), "v=00", true);
    }

    /** T, or T or E; F, or F and T; ! is of the next F alone. */
    private static void operators() {
        String no = "p=0";
        String yes = "p=1";
        for (int bits = 0; bits < 8; bits++) {
            boolean a = (bits & 1) == 1;
            boolean b = (bits & 2) == 2;
            boolean c = (bits & 4) == 4;
            String ta = a ? yes : no;
            String tb = b ? yes : no;
            String tc = c ? yes : no;
            holds(pair(), ta + "|" + tb + "|" + tc, a || b || c);
            holds(pair(), ta + "&" + tb + "&" + tc, a && b && c);
            holds(pair(), ta + "|" + tb + "&" + tc, a || b && c);
            holds(pair(), ta + "&" + tb + "|" + tc, a && b || c);
            holds(pair(), "(" + ta + "|" + tb + ")&" + tc, (a || b) && c);
            holds(pair(), ta + "&(" + tb + "|" + tc + ")", a && (b || c));
            holds(pair(), "!" + ta + "|" + tb + "&!" + tc, !a || b && !c);
            holds(pair(), "!(" + ta + "|" + tb + ")&" + tc, !(a || b) && c);
            holds(pair(), "!!" + ta + "&!(" + tb + "&" + tc + ")", a && !(b && c));
            holds(pair(), "(((" + ta + "&" + tb + ")))|!!!" + tc, a && b || !c);
        }
        holds(pair(), no + "|" + no + "|" + no + "|" + no + "|" + no + "|" + yes, true);
        holds(pair(), yes + "&" + yes + "&" + yes + "&" + yes + "&" + yes + "&" + no, false);
    }

    // ---- promise 9: how many

    private static WoundEggs stored(int many) {
        WoundEggs x = pair();
        for (int i = 0; i < many; i++) {
            Due.is("its number", Due.store(x, "all " + (i + 1)), i);
        }
        return x;
    }

    private static void sixStores() {
        WoundEggs x = stored(6);
        Due.is("a seventh, FULL", Due.store(x, "all 9"), FULL);
        Due.is("THE TEXT stays", x.count(5), 5);
        Due.is("the one that held holds", x.told(1), 6);
        Due.is("STORES", x.count(1), 6);
        Due.is("THE TEXT goes on", x.feed('9'), 6);
        Due.is("FULL again", x.store(), FULL);
        Due.is("THE TEXT stays", x.count(5), 6);
        Due.is("the one that held holds", x.told(1), 6);
        for (int i = 7; i <= 100; i++) {
            Due.is("THE TEXT goes on", x.feed('9'), i);
        }
        Due.is("THE TEXT is FULL", x.feed('9'), FULL);
        Due.is("there are 6", x.store(), FULL);
        Due.is("THE TEXT stays", x.count(5), 100);
    }

    private static void sixStoresAndFaults() {
        WoundEggs x = stored(6);
        Due.is("FULL ahead of the FAULT of no TEXT", x.store(), FULL);
        Due.is("FULL ahead of a FAULT", Due.store(x, "all x"), FULL);
        Due.is("THE TEXT stays", x.count(5), 5);
        WoundEggs y = stored(5);
        for (int i = 0; i < 7; i++) {
            Due.is("those with a FAULT are not counted", Due.store(y, "al"), -12);
        }
        Due.is("the sixth", Due.store(y, "all 12"), 5);
    }

    private static void faultsChangeNothing() {
        WoundEggs x = pair();
        Due.is("a FAULT ahead of any STORE", Due.store(x, "all 5;late 9 p<9;all"), -30);
        Due.is("no STORE holds: ALL", x.told(1), 0);
        Due.is("no STORE holds: REST", x.of(1, 8), 9);
        Due.is("no STORES", x.count(1), 0);
        Due.is("a STORE", Due.store(x, "late 2 p=1;all 1"), 0);
        String[] faulty = {"", "x", "all 5;late 9 p<9;x", "all 7;", "late 8 p<9;early 3 p<9&"};
        int[] places = {0, 0, 17, 6, 23};
        for (int i = 0; i < faulty.length; i++) {
            Due.is("a FAULT", Due.store(x, faulty[i]), -10 - places[i]);
            Due.is("THE TEXT is empty", x.count(5), 0);
            Due.is("the one that held holds: ALL", x.told(1), 1);
            Due.is("the one that held holds: REST", x.of(1, 8), 12);
            Due.is("the one that held holds: REST", x.of(0, 8), 1);
            Due.is("STORES", x.count(1), 1);
        }
        String many = "late 1 p=1;".repeat(8) + "late 1 p=";
        Due.is("a FAULT of many CLAUSES", Due.store(x, many), -10 - many.length());
        Due.is("the next", Due.store(x, "early 1 p=1"), 1);
        Due.is("it holds alone: ALL", x.told(1), 0);
        Due.is("it holds alone: REST", x.of(1, 8), 8);
    }

    private static void newestHolds() {
        WoundEggs x = stored(0);
        Due.is("without one there are no CLAUSES", x.of(1, 8), 9);
        for (int i = 0; i < 6; i++) {
            Due.is("its number", Due.store(x, "late " + i + " p=1;all " + (i + 1)), i);
            Due.is("ALL is the newest's", x.told(1), i + 1);
            Due.is("REST is by the newest", x.of(1, 8), 9 + i + i + 1);
            Due.is("REST is by the newest", x.of(0, 8), i + 1);
            Due.is("how many", x.count(1), i + 1);
        }
    }

    private static void allIsTheLast() {
        WoundEggs x = pair();
        Due.is("the last one's n", Due.store(x, "all 9;all 2;late 3 p=1;all 4;early 1 p=1"), 0);
        Due.is("ALL", x.told(1), 4);
        Due.is("REST", x.of(1, 8), 9 + 4 + 3 - 1);
        Due.is("the last one's n", Due.store(x, "all 9;all 0"), 1);
        Due.is("ALL", x.told(1), 0);
        Due.is("0 without", Due.store(x, "late 3 p=0"), 2);
        Due.is("ALL", x.told(1), 0);
        Due.is("REST", x.of(1, 8), 9);
        Due.is("the tenth", Due.store(x, "all 9".concat(";all 1".repeat(8)).concat(";all 8")), 3);
        Due.is("ALL", x.told(1), 8);
    }
}
