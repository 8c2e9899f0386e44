import java.util.Arrays;

/** Boundary cases of promises 19 to 27. */
public final class EdgeWornTest extends Edges {
    private static void dueWho(String row, int want, String... scraps) {
        KnotSigns x = men(row);
        for (String text : scraps) {
            scrap(x, text);
        }
        due("who of " + row + " by " + Arrays.toString(scraps), x.who(), want);
    }

    private static void dueWorn(int cords, String row, String text, int ways, String first) {
        KnotSigns x = coast(cords, row);
        say(x, text);
        asked(text + " for " + row, x, () -> x.worn(0, -1), ways);
        for (int i = 0; i < 4; i++) {
            int lost = i;
            asked(text + " for " + row + " at " + i, x, () -> x.worn(0, lost),
                i < first.length() ? first.charAt(i) : NONE);
        }
        due("the pad stays", x.told(0), text.length());
        dueRow(x, 0, row);
    }

    /** Promise 19: no ? on the pad: it becomes his by slides as it is, or not. */
    private static void p19NoneLost() {
        dueWorn(4, "aba", "bab", 1, "");
        dueWorn(4, "aba", "aba", 1, "");
        dueWorn(4, "aba", "aab", 0, "");
        dueWorn(4, "aAb", "b", 1, "");
    }

    /** Promise 19: an empty pad is the row without crossings. */
    private static void p19AnEmptyPad() {
        dueWorn(4, "", "", 1, "");
        dueWorn(4, "cC", "", 1, "");
        dueWorn(4, "c", "", 0, "");
    }

    /** Promise 19, Terms: "ways to write a CROSSING for each ?": one, two, three that are lost. */
    private static void p19OneToThreeLost() {
        dueWorn(4, "aba", "b?b", 1, "a");
        dueWorn(4, "aba", "??b", 1, "ba");
        dueWorn(4, "aba", "???", 2, "aba");
        dueWorn(4, "CCCCCC", "C?C?C?", 1, "CCC");
        dueWorn(4, "CCC", "???", 1, "CCC");
        dueWorn(4, "aaa", "???", 1, "aaa");
        dueWorn(4, "acacac", "?a?a?c", 3, "acc");
        dueWorn(4, "cccaaa", "?a?a?a", 1, "ccc");
    }

    /** Promise 19, Terms: "the first by SIGNS": small ones first, the first ? first. */
    private static void p19TheFirstBySigns() {
        dueWorn(4, "ca", "??", 2, "ac");
        dueWorn(4, "Ac", "??", 2, "cA");
        dueWorn(4, "", "??", 6, "aA");
        dueWorn(4, "c", "???", 13, "acA");
        dueWorn(4, "", "?bB?", 6, "aA");
    }

    /** Promise 19, Terms: "SIGNS .. (those there are)": of 2, 3, 4 cords two, four, six can be written. */
    private static void p19SignsThatThereAre() {
        for (int cords = 2; cords <= 4; cords++) {
            dueWorn(cords, "", "??", 2 * cords - 2, "aA");
        }
        dueWorn(2, "A", "?", 1, "A");
        dueWorn(3, "B", "?", 1, "B");
        dueWorn(2, "A", "???", 3, "aAA");
    }

    /** Promise 19: of as many cords as there are then: what was found of other cords is not told. */
    private static void p19BehindOtherCords() {
        KnotSigns x = new KnotSigns();
        for (int cords : new int[] {4, 2, 3, 4, 3, 2}) {
            x.cords(cords);
            teach(x, 0, "");
            say(x, "??");
            due("ways, " + cords + " cords", x.worn(0, -1), 2 * cords - 2);
            due("the first", x.worn(0, 0), 'a');
            due("the first", x.worn(0, 1), 'A');
        }
    }

    /** Promise 19: no way: NONE for each ?. */
    private static void p19NoWay() {
        dueWorn(4, "aba", "a?a?", 0, "");
        dueWorn(4, "", "?", 0, "");
        dueWorn(4, "aaB", "aBAb?", 0, "");
        dueWorn(4, "aaB", "a??ba", 0, "");
    }

    /** Promise 19: "NONE": behind the last ?, below -1. */
    private static void p19BehindAndBelow() {
        KnotSigns x = men("aba", "");
        say(x, "b?b");
        for (int i : new int[] {1, 2, 3, 6, 256, HIGH, -2, -6, LOW}) {
            asked("place " + i, x, () -> x.worn(0, i), NONE);
            asked("place " + i + ", no way", x, () -> x.worn(1, i), NONE);
        }
        asked("no way", x, () -> x.worn(1, 0), NONE);
    }

    /** Promise 19: "NO: there is a FAULT": of each kind; whatever i is. */
    private static void p19Fault() {
        for (String text : FAULTY) {
            KnotSigns x = men("ab");
            say(x, text);
            for (int i : new int[] {-1, 0, -2, HIGH}) {
                refused(text + " " + i, x, () -> x.worn(0, i), NO);
            }
        }
    }

    /** Promise 19, Terms: "the first of these that fits": UNKNOWN, then NO. */
    private static void p19UnknownThenNo() {
        KnotSigns x = men("ab");
        say(x, "??d");
        refused("no row", x, () -> x.worn(1, -1), UNKNOWN);
        refused("no man", x, () -> x.worn(6, 0), UNKNOWN);
        refused("he has one", x, () -> x.worn(0, 0), NO);
        pad(x, "??");
        refused("no row", x, () -> x.worn(1, -1), UNKNOWN);
    }

    /** Promise 20: "The PAD is a SCRAP more (it is empty then): how many"; Terms: "SCRAPS, 3 at most". */
    private static void p20ThreeScraps() {
        KnotSigns x = men("abcabc");
        for (int i = 1; i <= 3; i++) {
            pad(x, "a");
            due("scrap", x.scrap(), i);
            due("signs then", x.told(0), 0);
            due("scraps", x.told(3), i);
        }
    }

    /** Promise 20: "FULL"; Terms: "SCRAPS, 3 at most": the fourth is refused, and the three stay. */
    private static void p20TheFourth() {
        KnotSigns x = men("abcABC", "abABC");
        scrap(x, "ab");
        scrap(x, "c");
        scrap(x, "C");
        say(x, "bbb");
        refused("the fourth", x, x::scrap, FULL);
        due("who", x.who(), 1);
        due("signs", x.told(0), 3);
        x.burn();
        due("room again", x.scrap(), 1);
    }

    /** Promise 20: "NO: there is .. nothing"; Terms: "one CROSSING at least". */
    private static void p20Nothing() {
        KnotSigns x = men("a");
        refused("nothing", x, x::scrap, NO);
        say(x, "a");
        due("one", x.scrap(), 1);
        refused("nothing again", x, x::scrap, NO);
    }

    /** Promise 20, Terms: "A ROW is of 6 CROSSINGS at most": a scrap of six; a seventh is a FAULT. */
    private static void p20SixCrossings() {
        KnotSigns x = men("abcABC", "abcAB");
        say(x, "abcABCa");
        refused("seven", x, x::scrap, NO);
        pad(x, "abcABC");
        due("six", x.scrap(), 1);
        due("who", x.who(), 1);
    }

    /** Promise 20: "NO: there is a FAULT": of each kind. */
    private static void p20Fault() {
        for (String text : FAULTY) {
            KnotSigns x = men("a");
            say(x, text);
            refused(text, x, x::scrap, NO);
        }
        KnotSigns x = coast(3, "a");
        say(x, "abc");
        refused("c of 3 cords", x, x::scrap, NO);
    }

    /** Promise 20: "STATE: there is some ?"; Terms: "(without ?, one CROSSING at least)". */
    private static void p20Lost() {
        for (String text : new String[] {"?", "a?", "?a", "???"}) {
            KnotSigns x = men("a");
            say(x, text);
            refused(text, x, x::scrap, STATE);
        }
    }

    /** Promise 20, Terms: "the first of these that fits": NO, then STATE, then FULL. */
    private static void p20NoThenStateThenFull() {
        KnotSigns x = men("a");
        say(x, "?d");
        refused("no and state", x, x::scrap, NO);
        for (int i = 0; i < 3; i++) {
            scrap(x, "a");
        }
        refused("nothing and full", x, x::scrap, NO);
        pad(x, "d");
        refused("fault and full", x, x::scrap, NO);
        pad(x, "?");
        refused("state and full", x, x::scrap, STATE);
        pad(x, "a");
        refused("full", x, x::scrap, FULL);
    }

    /** Promise 21: "SCRAPS go: how many there were": none, one, three. */
    private static void p21HowManyThereWere() {
        KnotSigns x = men("a");
        for (int many = 0; many <= 3; many++) {
            for (int i = 0; i < many; i++) {
                scrap(x, "b");
            }
            due("burn", x.burn(), many);
            due("scraps then", x.told(3), 0);
            due("burn again", x.burn(), 0);
            due("who then", x.who(), 1);
        }
    }

    /** Promise 21: scraps go, and nothing else does; not those of an image. */
    private static void p21OnlyScrapsGo() {
        KnotSigns x = men("a", "", "abc");
        String before = seen(x);
        scrap(x, "c");
        x.image(0);
        x.burn();
        if (!seen(x).equals(before)) {
            fail("changed " + before + " to " + seen(x));
        }
        x.restore(0);
        due("the image's", x.told(3), 1);
        due("the image's", x.who(), 4);
    }

    /** Promise 22: no man has a row: no bit. */
    private static void p22NoMan() {
        KnotSigns x = new KnotSigns();
        asked("no scrap", x, x::who, 0);
        scrap(x, "a");
        asked("a scrap", x, x::who, 0);
    }

    /** Promise 22: no scrap: all of none are in every row, in one without crossings, too. */
    private static void p22NoScrap() {
        KnotSigns x = men("a", null, "", null, null, "abcABC");
        asked("who", x, x::who, 1 + 4 + 32);
    }

    /** Promise 22: "as bits": of the first man, of the last one, of all. */
    private static void p22Bits() {
        KnotSigns x = men("ab", "b", "ba", "", "B", "ab");
        scrap(x, "a");
        asked("a", x, x::who, 1 + 4 + 32);
        scrap(x, "b");
        asked("a, b", x, x::who, 1 + 32);
        x.drown(0);
        asked("who is drowned is none", x, x::who, 32);
        x.burn();
        teach(x, 0, "a");
        asked("all", x, x::who, 63);
    }

    /** Promise 22, Terms: "each side by side". */
    private static void p22SideBySide() {
        dueWho("abc", 0, "ac");
        dueWho("abc", 1, "bc");
        dueWho("abac", 1, "ac");
        dueWho("acb", 0, "ab");
        dueWho("ca", 0, "ac");
    }

    /** Promise 22, Terms: "one behind another in order". */
    private static void p22InOrder() {
        dueWho("abc", 1, "a", "b", "c");
        dueWho("abc", 0, "b", "a");
        dueWho("abc", 0, "a", "c", "b");
        dueWho("abca", 1, "b", "a");
    }

    /** Promise 22, Terms: "none over another one": side by side they may be. */
    private static void p22NoneOverAnother() {
        dueWho("aaa", 0, "aa", "aa");
        dueWho("aaaa", 1, "aa", "aa");
        dueWho("abc", 0, "ab", "bc");
        dueWho("abbc", 1, "ab", "bc");
        dueWho("a", 0, "a", "a");
        dueWho("aa", 1, "a", "a");
        dueWho("aaa", 1, "a", "a", "a");
        dueWho("aa", 0, "a", "a", "a");
    }

    /** Promise 22: scraps may be the whole row, and no more; the earliest place leaves the most room. */
    private static void p22TheWholeRow() {
        dueWho("abcABC", 1, "abcABC");
        dueWho("abcAB", 0, "abcABC");
        dueWho("abcABC", 1, "ab", "cA", "BC");
        dueWho("abcABC", 0, "ab", "cA", "BCa");
        dueWho("aabaab", 1, "aab", "aab");
        dueWho("abaaba", 1, "a", "aba");
        dueWho("aaab", 1, "aa", "ab");
        dueWho("aab", 0, "aa", "ab");
        dueWho("", 0, "a");
    }

    /** Promise 23: he alone: no slips. */
    private static void p23Alone() {
        KnotSigns x = men(null, null, null, null, null, "abc");
        asked("slips", x, () -> x.descent(5, -1), 0);
        refused("himself", x, () -> x.descent(5, 5), UNKNOWN);
    }

    /** Promise 23: two men: the one comes of the other; by no slip, by six. */
    private static void p23TwoMen() {
        KnotSigns x = men("", null, null, "abcABC", "abcABC");
        x.drown(4);
        asked("six", x, () -> x.descent(0, -1), 6);
        asked("master", x, () -> x.descent(0, 3), 0);
        asked("six", x, () -> x.descent(3, -1), 6);
        asked("master", x, () -> x.descent(3, 0), 3);
        teach(x, 0, "abcABC");
        asked("none", x, () -> x.descent(0, -1), 0);
    }

    /** Promise 23: six men as far apart as can be. */
    private static void p23TheMostSlips() {
        KnotSigns x = men("aaaaaa", "bbbbbb", "cccccc", "AAAAAA", "BBBBBB", "CCCCCC");
        for (int man = 0; man < 6; man++) {
            int him = man;
            asked("slips from " + man, x, () -> x.descent(him, -1), 30);
        }
    }

    /** Promise 23, Terms: "so that all come of that MAN at last": two who are nearest to each other are not enough. */
    private static void p23AllComeOfHim() {
        KnotSigns x = men("aaaaaa", "BBB", "BBC");
        asked("from 0", x, () -> x.descent(0, -1), 7);
        asked("1 of 0", x, () -> x.descent(0, 1), 0);
        asked("2 of 1", x, () -> x.descent(0, 2), 1);
        asked("from 1", x, () -> x.descent(1, -1), 7);
        asked("0 of 1", x, () -> x.descent(1, 0), 1);
        asked("from 2", x, () -> x.descent(2, -1), 7);
        asked("0 of 1", x, () -> x.descent(2, 0), 1);
        asked("1 of 2", x, () -> x.descent(2, 1), 2);
    }

    /** Promise 23, Terms: "fewest together": fewer slips win over a lesser master. */
    private static void p23FewestTogether() {
        KnotSigns x = men("", "abc", "ab", "a");
        asked("slips", x, () -> x.descent(0, -1), 3);
        asked("1 of 2", x, () -> x.descent(0, 1), 2);
        asked("2 of 3", x, () -> x.descent(0, 2), 3);
        asked("3 of 0", x, () -> x.descent(0, 3), 0);
    }

    /** Promise 23, Terms: "of several the one in which the least MAN's master is least, then the next one's". */
    private static void p23OfSeveralTheLeastMasters() {
        KnotSigns x = men("a", "b", "c", "A", "B", "C");
        int[][] want = {{-1, 0, 0, 0, 0, 0}, {1, -1, 0, 0, 0, 0}, {1, 2, -1, 0, 0, 0}, {1, 2, 3, -1, 0, 0},
            {1, 2, 3, 4, -1, 0}, {1, 2, 3, 4, 5, -1}};
        for (int man = 0; man < 6; man++) {
            due("slips from " + man, x.descent(man, -1), 5);
            for (int of = 0; of < 6; of++) {
                due("from " + man + " of " + of, x.descent(man, of), want[man][of]);
            }
        }
    }

    /** Promise 23: "UNKNOWN: both, also he himself": the one, the other (below -1, too), himself. */
    private static void p23Unknown() {
        KnotSigns x = men("a", "b", null, null, null, null);
        refused("himself", x, () -> x.descent(0, 0), UNKNOWN);
        refused("himself", x, () -> x.descent(1, 1), UNKNOWN);
        refused("a man without a row", x, () -> x.descent(2, -1), UNKNOWN);
        refused("a man without a row", x, () -> x.descent(2, 0), UNKNOWN);
        refused("of one without a row", x, () -> x.descent(0, 2), UNKNOWN);
        for (int man : NO_MEN) {
            refused("man " + man, x, () -> x.descent(man, -1), UNKNOWN);
            if (man != -1) {
                refused("of " + man, x, () -> x.descent(0, man), UNKNOWN);
            }
        }
    }

    /** Promise 23, Terms: "each other MAN who has a ROW": who is drowned is nobody's master any more. */
    private static void p23TheDrownedAreNoMasters() {
        KnotSigns x = men("abc", "ab", "a", "");
        asked("all", x, () -> x.descent(0, -1), 3);
        asked("3 of 2", x, () -> x.descent(0, 3), 2);
        x.drown(2);
        asked("without 2", x, () -> x.descent(0, -1), 3);
        asked("3 of 1", x, () -> x.descent(0, 3), 1);
        x.drown(1);
        asked("without 1", x, () -> x.descent(0, -1), 3);
        asked("3 of 0", x, () -> x.descent(0, 3), 0);
        refused("of the drowned", x, () -> x.descent(0, 1), UNKNOWN);
    }

    /** Promise 23, Terms: "each other MAN who has a ROW": whoever is drowned, no slips are counted for him. */
    private static void p23TheDrownedNeedNoMaster() {
        for (int man = 0; man < 6; man++) {
            KnotSigns x = men("aaaaaa", "bbbbbb", "cccccc", "AAAAAA", "BBBBBB", "CCCCCC");
            int root = man == 0 ? 5 : 0;
            due("six men", x.descent(root, -1), 30);
            x.drown(man);
            due("five men", x.descent(root, -1), 24);
            teach(x, man, "aa");
            due("taught again", x.descent(root, -1), man == 0 ? 30 : 28);
        }
    }

    private static void dueYear(int cords, String row, int seed, int m, String then) {
        KnotSigns x = coast(cords, row);
        int changed = 0;
        int twist = 100;
        for (int i = 0; i < then.length(); i++) {
            changed += then.charAt(i) == row.charAt(i) ? 0 : 1;
            twist += Character.isLowerCase(then.charAt(i)) ? 1 : -1;
        }
        asked(row + " by " + seed + ", " + m, x, () -> x.year(seed, m, 0, 0), changed);
        int due = twist;
        asked(row + " by " + seed + ", " + m + " twist", x, () -> x.year(seed, m, 0, 1), due);
    }

    /** Promise 24: "OUTSIDE"; Terms: "a seed (0 to 9999)". */
    private static void p24Seed() {
        KnotSigns x = men("a");
        asked("the least", x, () -> x.year(0, 1, 0, 1), 99);
        asked("the most", x, () -> x.year(9999, 0, 0, 1), 101);
        for (int seed : new int[] {-1, -2, 10000, 10001, 65536, 65537, LOW, HIGH}) {
            refused("seed " + seed, x, () -> x.year(seed, 1, 0, 0), OUTSIDE);
            refused("seed " + seed, x, () -> x.year(seed, 0, 0, 1), OUTSIDE);
        }
    }

    /** Promise 24: "OUTSIDE"; Terms: "m SLIPS (0 to 99)". */
    private static void p24Slips() {
        KnotSigns x = men("abcABC");
        asked("the most", x, () -> x.year(9999, 99, 0, 0), 3);
        asked("the least", x, () -> x.year(9999, 0, 0, 0), 0);
        for (int m : new int[] {-1, -2, 100, 101, 256, LOW, HIGH}) {
            refused("slips " + m, x, () -> x.year(0, m, 0, 0), OUTSIDE);
        }
    }

    /** Promise 24: "(what = 0) .. (1)", "OUTSIDE". */
    private static void p24What() {
        KnotSigns x = men("a");
        for (int what : new int[] {-1, 2, -2, 256, LOW, HIGH}) {
            refused("what " + what, x, () -> x.year(0, 0, 0, what), OUTSIDE);
        }
    }

    /** Promise 24, Terms: "the first of these that fits": UNKNOWN, then OUTSIDE. */
    private static void p24UnknownThenOutside() {
        KnotSigns x = men("a");
        refused("no row", x, () -> x.year(-1, 0, 1, 0), UNKNOWN);
        refused("no row", x, () -> x.year(0, 100, 5, 0), UNKNOWN);
        refused("no man", x, () -> x.year(0, 0, 6, 2), UNKNOWN);
        refused("no man", x, () -> x.year(HIGH, HIGH, -1, HIGH), UNKNOWN);
    }

    /** Promise 24: no slip at all: nothing is changed. */
    private static void p24NoSlip() {
        dueYear(4, "abC", 0, 0, "abC");
        dueYear(4, "abC", 9999, 0, "abC");
        dueYear(4, "CCCCCC", 5, 0, "CCCCCC");
    }

    /** Promise 24, Terms: "if it has CROSSINGS": a row without any stays so, by all seeds and slips. */
    private static void p24NoCrossing() {
        for (int m : new int[] {0, 1, 2, 98, 99}) {
            dueYear(4, "", 0, m, "");
            dueYear(2, "", 9999, m, "");
        }
    }

    /** Promise 24, Terms: "x becomes (75 x and 74) left over by 65537": it wraps around first at seed 873. */
    private static void p24LeftOver() {
        dueYear(4, "aaAaaa", 872, 1, "aaaaaa");
        dueYear(4, "Baaaaa", 873, 1, "baaaaa");
        dueYear(4, "a", 0, 2, "b");
        dueYear(4, "a", 0, 3, "C");
    }

    /** Promise 24, Terms: "numbered x left over by how many": the first place (x is 12), the last one (x is 149). */
    private static void p24TheFirstAndTheLastPlace() {
        dueYear(4, "CCCCCC", 873, 1, "bCCCCC");
        dueYear(4, "CCCCCC", 1, 1, "CCCCCa");
        dueYear(4, "CC", 873, 1, "bC");
        dueYear(4, "CC", 1, 1, "Ca");
    }

    /** Promise 24, Terms: "x": behind 25 slips of seed 1327 it is 0: the first place, the first sign. */
    private static void p24NumberNone() {
        dueYear(4, "C", 1327, 25, "a");
        dueYear(2, "A", 1327, 25, "a");
    }

    /** Promise 24, Terms: "left over by how many SIGNS there are": of 2, 3, 4 cords others. */
    private static void p24SignsThatThereAre() {
        // x is 74: by 8 (cut) 9, left over by 2, 4, 6: 1, 1, 3; then 5624: 703, left over 1, 3, 1
        dueYear(2, "a", 0, 1, "A");
        dueYear(3, "a", 0, 1, "b");
        dueYear(4, "a", 0, 1, "A");
        dueYear(2, "a", 0, 2, "A");
        dueYear(3, "a", 0, 2, "B");
        dueYear(4, "a", 0, 2, "b");
    }

    /** Promise 24, Terms: "how many are not as they were": one that is changed and changed back is as it was. */
    private static void p24ChangedBack() {
        dueYear(4, "abc", 1, 1, "aba");
        dueYear(4, "abc", 1, 2, "abc");
        dueYear(4, "A", 0, 1, "A");
    }

    /** Promise 24: a year only tells what would be: his row stays, and each year begins with it anew. */
    private static void p24HisRowStays() {
        KnotSigns x = men("abcABC", "aaa");
        for (int k = 0; k < 3; k++) {
            asked("a year", x, () -> x.year(9999, 99, 0, 0), 3);
            asked("a year", x, () -> x.year(77, 99, 1, 1), 99);
        }
        dueRow(x, 0, "abcABC");
        dueRow(x, 1, "aaa");
    }

    /** Promise 25: "OUTSIDE"; Terms: "an IMAGE (0, 1)". */
    private static void p25Outside() {
        KnotSigns x = men("a");
        for (int n : new int[] {-1, 2, -2, 256, 65536, LOW, HIGH}) {
            refused("image " + n, x, () -> x.image(n), OUTSIDE);
        }
        due("none was kept", x.restore(0), STATE);
        due("none was kept", x.restore(1), STATE);
        x.image(0);
        teach(x, 1, "b");
        for (int n : new int[] {-1, 2}) {
            refused("image " + n, x, () -> x.image(n), OUTSIDE);
        }
        x.restore(0);
        due("image 0 is as it was", x.told(2), 1);
    }

    /** Promise 25: "(0, 1): 1": each of both, apart from the other. */
    private static void p25BothApart() {
        KnotSigns x = men("a");
        due("image 1", x.image(1), 1);
        teach(x, 0, "bb");
        due("image 0", x.image(0), 1);
        teach(x, 0, "ccc");
        x.restore(1);
        dueRow(x, 0, "a");
        x.restore(0);
        dueRow(x, 0, "bb");
        x.restore(1);
        dueRow(x, 0, "a");
    }

    /** Promise 25: "All but the PAD is kept": cords, rows, scraps; the call itself changes nothing. */
    private static void p25AllButThePad() {
        KnotSigns x = coast(3, "abAB", null, "", null, null, "bbbbbb");
        scrap(x, "a");
        scrap(x, "B");
        String all = seen(x);
        say(x, "ab");
        asked("image", x, () -> x.image(0), 1);
        x.cords(4);
        teach(x, 1, "cccccc");
        scrap(x, "cc");
        pad(x, "cC?");
        x.restore(0);
        due("the pad is as it is", x.wipe(), 3);
        if (!seen(x).equals(all)) {
            fail("restored is " + seen(x) + ", due is " + all);
        }
    }

    private static void changeOne(KnotSigns x, int which) {
        switch (which) {
            case 0 -> teach(x, 0, "CCCCCC");
            case 1 -> x.drown(1);
            case 2 -> scrap(x, "a");
            case 3 -> {
                x.burn();
                scrap(x, "ccc");
            }
            default -> x.cords(2);
        }
    }

    /** Promise 25: what is kept stays, whatever comes then (teach, drown, scrap, burn, cords), restored or not. */
    private static void p25WhatIsKeptStays() {
        KnotSigns x = men("abc", "b");
        scrap(x, "b");
        String all = seen(x);
        x.image(1);
        for (int k = 0; k < 10; k++) {
            changeOne(x, k % 5);
            x.restore(1);
            if (!seen(x).equals(all)) {
                fail("behind " + k + " restored is " + seen(x) + ", due is " + all);
            }
        }
    }

    /** Promise 25: kept anew: what was kept before is gone, and the other image is not. */
    private static void p25KeptAnew() {
        KnotSigns x = men("a", "b", "abcabc");
        scrap(x, "a");
        x.image(0);
        x.image(1);
        x.cords(4);
        teach(x, 5, "c");
        x.image(0);
        x.restore(1);
        due("the other one", x.told(2), 7);
        due("the other one's scraps", x.told(3), 1);
        x.restore(0);
        due("anew", x.told(2), 32);
        due("anew, scraps", x.told(3), 0);
        dueRow(x, 5, "c");
    }

    /** Promise 25: an object that has nothing can be kept, too. */
    private static void p25NothingIsKept() {
        KnotSigns x = new KnotSigns();
        due("image", x.image(0), 1);
        x.cords(2);
        teach(x, 3, "a");
        scrap(x, "a");
        due("restore", x.restore(0), 1);
        dueNew(x);
    }

    private static void dueNew(KnotSigns x) {
        due("cords", x.told(1), 4);
        due("men", x.told(2), 0);
        due("scraps", x.told(3), 0);
        due("signs there are", x.told(4), 6);
    }

    /** Promise 26: "OUTSIDE"; before STATE. */
    private static void p26OutsideThenState() {
        KnotSigns x = men("a");
        for (int n : new int[] {-1, 2, -2, 256, 65536, LOW, HIGH}) {
            refused("restore " + n, x, () -> x.restore(n), OUTSIDE);
        }
        x.image(0);
        x.image(1);
        teach(x, 1, "b");
        for (int n : new int[] {-1, 2}) {
            refused("restore " + n, x, () -> x.restore(n), OUTSIDE);
        }
    }

    /** Promise 26: "STATE: it was not": none, the other one alone. */
    private static void p26ItWasNot() {
        KnotSigns x = men("a");
        refused("none: 0", x, () -> x.restore(0), STATE);
        refused("none: 1", x, () -> x.restore(1), STATE);
        x.image(1);
        teach(x, 2, "b");
        refused("the other one alone", x, () -> x.restore(0), STATE);
        due("it was", x.restore(1), 1);
        refused("still not", x, () -> x.restore(0), STATE);
    }

    /** Promise 26: "It is as it was when it was kept: 1": as often as one likes. */
    private static void p26Twice() {
        KnotSigns x = men("abc", "", null, "C");
        scrap(x, "c");
        String all = seen(x);
        x.image(0);
        for (int k = 0; k < 3; k++) {
            x.cords(2 + k);
            teach(x, 5, "aA");
            due("restore", x.restore(0), 1);
            if (!seen(x).equals(all)) {
                fail("restored is " + seen(x) + ", due is " + all);
            }
        }
    }

    /** Promise 26, of promise 25's "All but the PAD": the pad stays, empty or with 40 signs. */
    private static void p26ThePadStays() {
        KnotSigns x = men("abc");
        say(x, "abab");
        x.image(0);
        x.wipe();
        x.restore(0);
        due("empty", x.told(0), 0);
        say(x, times('a', 40));
        x.restore(0);
        due("full", x.told(0), 40);
        refused("still full", x, () -> x.say('a'), FULL);
        pad(x, "cb");
        x.restore(0);
        due("teach", x.teach(4), 2);
        dueRow(x, 4, "cb");
    }

    /** Promise 26: cords as they were: the signs on the pad are looked at by them. */
    private static void p26CordsAsTheyWere() {
        KnotSigns x = coast(2, "a");
        x.image(0);
        x.cords(4);
        say(x, "abc");
        due("4 cords", x.fault(), NONE);
        x.restore(0);
        due("2 cords", x.fault(), 1);
        due("ends", x.ends(0, 2), UNKNOWN);
        due("rows", x.rows(0), 14);
        due("which it was", x.cords(3), 2);
    }

    /** Promise 27: "0 signs": none and 40. */
    private static void p27Signs() {
        KnotSigns x = new KnotSigns();
        asked("none", x, () -> x.told(0), 0);
        say(x, times('~', 41));
        asked("forty", x, () -> x.told(0), 40);
    }

    /** Promise 27: "1 CORDS", "4 SIGNS that there are": of 2, 3, 4. */
    private static void p27CordsAndSigns() {
        for (int n = 2; n <= 4; n++) {
            KnotSigns x = coast(n);
            int cords = n;
            asked("cords", x, () -> x.told(1), cords);
            asked("signs there are", x, () -> x.told(4), 2 * cords - 2);
        }
    }

    /** Promise 27: "2 MEN who have a ROW (bits)": none, the first, the last, all. */
    private static void p27Men() {
        KnotSigns x = new KnotSigns();
        asked("none", x, () -> x.told(2), 0);
        int bits = 0;
        for (int man : new int[] {5, 0, 3, 1, 4, 2}) {
            x.teach(man);
            bits += 1 << man;
            int sum = bits;
            asked("men", x, () -> x.told(2), sum);
        }
        asked("all", x, () -> x.told(2), 63);
        x.drown(5);
        asked("but the last", x, () -> x.told(2), 31);
    }

    /** Promise 27: "3 SCRAPS": none to three, not four. */
    private static void p27Scraps() {
        KnotSigns x = new KnotSigns();
        for (int many = 0; many <= 4; many++) {
            int most = Math.min(many, 3);
            asked("scraps", x, () -> x.told(3), most);
            scrap(x, "a");
        }
    }

    /** Promise 27: "OUTSIDE": below 0, above 4. */
    private static void p27Outside() {
        KnotSigns x = men("a");
        for (int what : new int[] {-1, 5, -2, -6, 6, 256, 65536, LOW, HIGH}) {
            refused("told " + what, x, () -> x.told(what), OUTSIDE);
        }
    }

    public static void main(String[] args) throws IllegalAccessException {
        run(EdgeWornTest.class);
    }
}
