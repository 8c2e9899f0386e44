/** Boundary cases of promises 15 to 18. */
public final class EdgeSlipsTest extends Edges {
    private static void dueSlips(String one, String two, int want) {
        KnotSigns x = men(one, two);
        due(one + " to " + two, x.slips(0, 1), want);
        due(two + " to " + one, x.slips(1, 0), want);
    }

    /** Promise 15: from a row to one that is as it, no slip; from none to six crossings, six. */
    private static void p15NoneAndSix() {
        dueSlips("", "", 0);
        dueSlips("abcABC", "abcABC", 0);
        dueSlips("", "abcABC", 6);
        dueSlips("abcabc", "ABCABC", 6);
        KnotSigns x = men("abc");
        asked("himself", x, () -> x.slips(0, 0), 0);
    }

    /** Promise 15, Terms: "put in, taken out or made another one": ahead of all, between, behind all. */
    private static void p15EachSlipAtEachPlace() {
        dueSlips("aca", "baca", 1);
        dueSlips("aca", "abca", 1);
        dueSlips("aca", "acab", 1);
        dueSlips("aca", "bca", 1);
        dueSlips("aca", "aba", 1);
        dueSlips("aca", "acb", 1);
        dueSlips("aca", "acA", 1);
    }

    /** Promise 15, Terms: "the fewest": two at once, not more; two that change places are two slips. */
    private static void p15TheFewest() {
        dueSlips("ab", "ba", 2);
        dueSlips("abcabc", "bcabca", 2);
        dueSlips("abcabc", "cabcab", 2);
        dueSlips("abc", "cab", 2);
        dueSlips("abcABC", "abABC", 1);
        dueSlips("abcABC", "aABC", 2);
        dueSlips("aA", "Aa", 2);
    }

    /** Promise 15: "UNKNOWN: both". */
    private static void p15UnknownBoth() {
        KnotSigns x = men("a", null, "a");
        refused("the one", x, () -> x.slips(1, 0), UNKNOWN);
        refused("the other", x, () -> x.slips(0, 1), UNKNOWN);
        refused("both", x, () -> x.slips(1, 3), UNKNOWN);
        refused("one number twice", x, () -> x.slips(1, 1), UNKNOWN);
    }

    /** Promise 16: "NONE: no MAN has a ROW": at first, behind drown, behind cords. */
    private static void p16NoManHasARow() {
        KnotSigns x = new KnotSigns();
        for (String text : new String[] {"", "abc"}) {
            pad(x, text);
            asked("man", x, () -> x.whose(0), NONE);
            asked("slips", x, () -> x.whose(1), NONE);
        }
        teach(x, 5, "a");
        asked("the last man alone", x, () -> x.whose(0), 5);
        x.drown(5);
        asked("behind drown", x, () -> x.whose(0), NONE);
        teach(x, 0, "a");
        x.cords(4);
        asked("behind cords", x, () -> x.whose(1), NONE);
    }

    /** Promise 16, Terms: "the MAN .. the first": of several who are as near. */
    private static void p16TheFirst() {
        KnotSigns x = men("aaa", "b", "c", "b", "", "b");
        say(x, "b");
        asked("as the pad", x, () -> x.whose(0), 1);
        pad(x, "A");
        asked("one slip", x, () -> x.whose(0), 1);
        asked("one slip", x, () -> x.whose(1), 1);
        x.drown(1);
        asked("the next one", x, () -> x.whose(0), 2);
    }

    /** Promise 16: "the MAN (what = 0), SLIPS (1)": the fewest and the most; on an empty pad, too. */
    private static void p16FewestAndMost() {
        KnotSigns x = men(null, "abcabc");
        asked("none to six", x, () -> x.whose(1), 6);
        asked("none to six", x, () -> x.whose(0), 1);
        pad(x, "abcabc");
        asked("no slip", x, () -> x.whose(1), 0);
        pad(x, "ABCABC");
        asked("six others", x, () -> x.whose(1), 6);
        teach(x, 5, "");
        asked("an empty row, an empty pad", x, () -> x.whose(0), 5);
        asked("an empty row, an empty pad", x, () -> x.whose(1), 0);
    }

    /** Promise 16: "OUTSIDE": what is 0 or 1. */
    private static void p16Outside() {
        KnotSigns x = men("a");
        for (int what : new int[] {-1, 2, -2, 256, 65536, LOW, HIGH}) {
            refused("what " + what, x, () -> x.whose(what), OUTSIDE);
        }
    }

    /** Promise 16: "NO: there is a FAULT": of each kind. */
    private static void p16Fault() {
        for (String text : FAULTY) {
            KnotSigns x = men("a");
            say(x, text);
            refused("man " + text, x, () -> x.whose(0), NO);
            refused("slips " + text, x, () -> x.whose(1), NO);
        }
    }

    /** Promise 16: "STATE: there is some ?". */
    private static void p16Lost() {
        for (String text : new String[] {"?", "a?", "???", "abc???"}) {
            KnotSigns x = men("a");
            say(x, text);
            refused("man " + text, x, () -> x.whose(0), STATE);
            refused("slips " + text, x, () -> x.whose(1), STATE);
        }
    }

    /** Promise 16, Terms: "the first of these that fits": OUTSIDE, then NO, then STATE; each of them before NONE. */
    private static void p16OutsideThenNoThenState() {
        for (KnotSigns x : new KnotSigns[] {men("a"), new KnotSigns()}) {
            pad(x, "?d");
            refused("outside and no", x, () -> x.whose(2), OUTSIDE);
            refused("no and state", x, () -> x.whose(0), NO);
            pad(x, "?");
            refused("outside and state", x, () -> x.whose(-1), OUTSIDE);
            refused("state", x, () -> x.whose(1), STATE);
            x.wipe();
            refused("outside", x, () -> x.whose(2), OUTSIDE);
        }
    }

    /** Promise 17: "NONE: there is no other one": he alone has a row. */
    private static void p17NoOtherOne() {
        KnotSigns x = men(null, "a");
        asked("man", x, () -> x.forger(1, 0), NONE);
        asked("slips", x, () -> x.forger(1, 1), NONE);
        teach(x, 0, "a");
        asked("there is one", x, () -> x.forger(1, 0), 0);
        x.drown(0);
        asked("he is drowned", x, () -> x.forger(1, 1), NONE);
    }

    /** Promise 17, Terms: "the MAN (but he himself)": though he needs no slip. */
    private static void p17NotHeHimself() {
        KnotSigns x = men("abc", null, null, null, null, "AB");
        asked("from the first", x, () -> x.forger(0, 0), 5);
        asked("from the first", x, () -> x.forger(0, 1), 3);
        asked("from the last", x, () -> x.forger(5, 0), 0);
        asked("from the last", x, () -> x.forger(5, 1), 3);
    }

    /** Promise 17, Terms: "the first": of several who are as near. */
    private static void p17TheFirst() {
        KnotSigns x = men("a", "b", "aaa", "b", "c", "a");
        asked("of 0", x, () -> x.forger(0, 0), 5);
        asked("of 1", x, () -> x.forger(1, 0), 3);
        asked("of 3", x, () -> x.forger(3, 0), 1);
        asked("of 4", x, () -> x.forger(4, 0), 0);
        asked("of 4", x, () -> x.forger(4, 1), 1);
        asked("of 2", x, () -> x.forger(2, 0), 0);
        asked("of 2", x, () -> x.forger(2, 1), 2);
    }

    /** Promise 17: "the MAN (what = 0), SLIPS (1)": no slip and six. */
    private static void p17FewestAndMost() {
        KnotSigns x = men("abcabc", "");
        asked("six", x, () -> x.forger(0, 1), 6);
        asked("six", x, () -> x.forger(1, 1), 6);
        teach(x, 5, "");
        asked("none", x, () -> x.forger(5, 1), 0);
        asked("none", x, () -> x.forger(5, 0), 1);
    }

    /** Promise 17: "OUTSIDE": what is 0 or 1; before NONE. */
    private static void p17Outside() {
        for (KnotSigns x : new KnotSigns[] {men("a"), men("a", "b")}) {
            for (int what : new int[] {-1, 2, -2, 256, LOW, HIGH}) {
                refused("what " + what, x, () -> x.forger(0, what), OUTSIDE);
            }
        }
    }

    /** Promise 17, Terms: "the first of these that fits": UNKNOWN, then OUTSIDE. */
    private static void p17UnknownThenOutside() {
        KnotSigns x = men("a");
        refused("no row", x, () -> x.forger(1, 2), UNKNOWN);
        refused("no man", x, () -> x.forger(6, -1), UNKNOWN);
        refused("he has one", x, () -> x.forger(0, -1), OUTSIDE);
    }

    /** Promise 17: the pad takes no part, with a fault or without. */
    private static void p17ThePadTakesNoPart() {
        KnotSigns x = men("a", "ab");
        say(x, "??d");
        asked("man", x, () -> x.forger(0, 0), 1);
        asked("slips", x, () -> x.forger(0, 1), 1);
    }

    /** Promise 18: "OUTSIDE: m, d"; Terms: "just m CROSSINGS (1, 2)". */
    private static void p18OutsideM() {
        KnotSigns x = men("a");
        for (int m : new int[] {0, 3, -1, -2, 4, 257, LOW, HIGH}) {
            for (int d : new int[] {1, 2, m}) {
                refused("m " + m + " d " + d, x, () -> x.given(m, d, -1), OUTSIDE);
            }
        }
    }

    /** Promise 18: "OUTSIDE: m, d"; Terms: "d places at least (1 to m)". */
    private static void p18OutsideD() {
        KnotSigns x = men("a");
        for (int m = 1; m <= 2; m++) {
            for (int d : new int[] {0, m + 1, m + 2, -1, 257, LOW, HIGH}) {
                int size = m;
                refused("m " + m + " d " + d, x, () -> x.given(size, d, -1), OUTSIDE);
                refused("m " + m + " d " + d + " a row", x, () -> x.given(size, d, 0), OUTSIDE);
                refused("m " + m + " d " + d + " none", x, () -> x.given(size, d, -2), OUTSIDE);
            }
        }
    }

    /** Promise 18, Terms: "the most ROWS of just m CROSSINGS": how many, of 2, 3, 4 cords. */
    private static void p18HowMany() {
        for (int cords = 2; cords <= 4; cords++) {
            KnotSigns x = coast(cords);
            int signs = 2 * cords - 2;
            asked("1 1", x, () -> x.given(1, 1, -1), signs);
            asked("2 1", x, () -> x.given(2, 1, -1), signs * signs);
            asked("2 2", x, () -> x.given(2, 2, -1), signs);
        }
    }

    /** Promise 18: "the number of its first SIGN (m = 1), or 10 times it and that of the second": first to last. */
    private static void p18EveryRow() {
        for (int cords = 2; cords <= 4; cords++) {
            KnotSigns x = coast(cords);
            int signs = 2 * cords - 2;
            for (int i = 0; i < signs; i++) {
                due("1 1", x.given(1, 1, i), i);
                due("2 2", x.given(2, 2, i), 11 * i);
                for (int j = 0; j < signs; j++) {
                    due("2 1", x.given(2, 1, i * signs + j), 10 * i + j);
                }
            }
        }
    }

    /** Promise 18: "NONE": behind the last row, below -1. */
    private static void p18BehindAndBelow() {
        for (int cords = 2; cords <= 4; cords++) {
            KnotSigns x = coast(cords);
            int signs = 2 * cords - 2;
            for (int more : new int[] {0, 1, 100, HIGH - 36}) {
                asked("1 1", x, () -> x.given(1, 1, signs + more), NONE);
                asked("2 2", x, () -> x.given(2, 2, signs + more), NONE);
                asked("2 1", x, () -> x.given(2, 1, signs * signs + more), NONE);
            }
            for (int i : new int[] {-2, -6, LOW}) {
                asked("1 1", x, () -> x.given(1, 1, i), NONE);
                asked("2 2", x, () -> x.given(2, 2, i), NONE);
                asked("2 1", x, () -> x.given(2, 1, i), NONE);
            }
        }
    }

    public static void main(String[] args) throws IllegalAccessException {
        run(EdgeSlipsTest.class);
    }
}
