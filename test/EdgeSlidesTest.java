/** Boundary cases of promises 9 to 14. */
public final class EdgeSlidesTest extends Edges {
    private static String shortOf(KnotSigns x, int man) {
        StringBuilder text = new StringBuilder();
        for (int i = 0; i < x.shortest(man, -1); i++) {
            text.append((char) x.shortest(man, i));
        }
        return text.toString();
    }

    private static void dueShort(int cords, String row, String want) {
        KnotSigns x = coast(cords, row);
        String got = shortOf(x, 0);
        if (!got.equals(want)) {
            fail("short of " + row + " is " + got + ", due is " + want);
        }
        due("short of " + row + " behind its end", x.shortest(0, want.length()), NONE);
    }

    private static void dueSame(int cords, String one, String two, int want) {
        KnotSigns x = coast(cords, one, two);
        due(one + " to " + two, x.same(0, 1), want);
        due(two + " to " + one, x.same(1, 0), want);
    }

    /** Promise 9: from a row to itself there is no slide; two men may have one row. */
    private static void p09ToItself() {
        for (String row : new String[] {"", "a", "abcABC", "CCCCCC"}) {
            dueSame(4, row, row, 0);
            KnotSigns x = men(row);
            asked(row + " himself", x, () -> x.same(0, 0), 0);
        }
    }

    /** Promise 9, Terms: "UNDO: two CROSSINGS .. of one letter, small and great, go (aA, Aa)": of each letter. */
    private static void p09UndoOfEachLetter() {
        String[] letters = {"a", "ab", "abc"};
        for (int cords = 2; cords <= 4; cords++) {
            for (char small : letters[cords - 2].toCharArray()) {
                char great = Character.toUpperCase(small);
                dueSame(cords, "" + small + great, "", 1);
                dueSame(cords, "" + great + small, "", 1);
            }
        }
    }

    /** Promise 9, Terms: UNDO: "of one letter", "small and great", "side by side": else there is none. */
    private static void p09NoUndo() {
        for (String row : new String[] {"aa", "AA", "aB", "bA", "aC", "Ca", "bC", "abA", "acb", "cCa"}) {
            dueSame(4, row, "", NONE);
        }
        dueSame(4, "abA", "b", NONE);
        dueSame(4, "aba", "b", NONE);
    }

    /** Promise 9, Terms: "TIE: two such come at some place": ahead of all, between, behind all. */
    private static void p09TieAtEachPlace() {
        for (String two : new String[] {"aA", "Aa", "bB", "Bb", "cC", "Cc"}) {
            dueSame(4, "bb", two + "bb", 1);
            dueSame(4, "bb", "b" + two + "b", 1);
            dueSame(4, "bb", "bb" + two, 1);
        }
    }

    /** Promise 9, Terms: TIE: "(6 CROSSINGS at most then)": six there may be. */
    private static void p09TieToSix() {
        dueSame(4, "abcb", "abcbcC", 1);
        dueSame(4, "abcb", "Aaabcb", 1);
        dueSame(2, "aaaa", "aaAaaa", 1);
        dueSame(4, "abaa", "abaAaa", 1);
    }

    /** Promise 9, Terms: TIE: "(6 CROSSINGS at most then)": nothing comes into a row of five or six crossings. */
    private static void p09NoTieToSevenOrEight() {
        for (int cords = 2; cords <= 4; cords++) {
            KnotSigns x = coast(cords, "aaaa", "aaaaa", "aaaaaa");
            due("of four", x.rows(0) > 1 ? 1 : 0, 1);
            due("of five", x.rows(1), 1);
            due("of six", x.rows(2), 1);
        }
    }

    /** Promise 9, Terms: "none of the ROWS between above 6 CROSSINGS": by longer rows these would be four slides. */
    private static void p09NoneByLongerRows() {
        for (int cords = 3; cords <= 4; cords++) {
            dueSame(cords, "aaB", "aBAba", NONE);
            dueSame(cords, "abABab", "Baab", NONE);
        }
    }

    /** Promise 9, Terms: "none of the ROWS between above 6 CROSSINGS": by longer rows these would be five slides. */
    private static void p09MoreThanByLongerRows() {
        dueSame(3, "aaBA", "BAbbaA", 7);
        dueSame(4, "aaBA", "BAbbaA", 7);
    }

    /** Promise 9, Terms: "SWAP: a or A and c or C, side by side, change places". */
    private static void p09Swap() {
        for (String two : new String[] {"ac", "aC", "Ac", "AC"}) {
            String back = "" + two.charAt(1) + two.charAt(0);
            dueSame(4, two, back, 1);
            dueSame(4, "bbbb" + two, "bbbb" + back, 1);
            dueSame(4, two + "bbbb", back + "bbbb", 1);
        }
        dueSame(4, "acacac", "cccaaa", 6);
    }

    /** Promise 9, Terms: SWAP of no other letters, and "side by side". */
    private static void p09NoSwap() {
        for (String two : new String[] {"ab", "aB", "Ab", "AB", "bc", "bC", "Bc", "BC"}) {
            dueSame(4, two, "" + two.charAt(1) + two.charAt(0), NONE);
        }
        dueSame(4, "abc", "cba", NONE);
        dueSame(3, "ab", "ba", NONE);
    }

    /** Promise 9, Terms: TURN: "the outer letter becomes the middle one's, and the other way round". */
    private static void p09Turn() {
        String[] turns = {"aba bab", "bcb cbc", "ABA BAB", "BCB CBC"};
        for (String turn : turns) {
            String[] two = turn.split(" ");
            dueSame(4, two[0], two[1], 1);
            dueSame(4, two[0] + "aaa", two[1] + "aaa", 1);
            dueSame(4, "CCC" + two[0], "CCC" + two[1], 1);
        }
        dueSame(3, "aba", "bab", 1);
        dueSame(3, "ABA", "BAB", 1);
    }

    /** Promise 9, Terms: TURN: "all small or all great": else the way is longer, or there is none. */
    private static void p09NoTurnOfSmallAndGreat() {
        for (String turn : new String[] {"aBa BaB", "AbA bAb", "bCb CbC", "BcB cBc", "aba BAB", "bab ABA"}) {
            String[] two = turn.split(" ");
            dueSame(4, two[0], two[1], NONE);
        }
        dueSame(4, "abA", "Bab", 3);
        dueSame(4, "ABa", "bAB", 3);
        dueSame(4, "Aba", "baB", 3);
    }

    /** Promise 9, Terms: TURN: "the outer ones alike, the middle one the next letter or the one ahead". */
    private static void p09NoTurnOfOtherLetters() {
        for (String turn : new String[] {"aca cac", "ACA CAC", "abb baa", "aab bba", "abc bab", "abc bcb", "abc cba"}) {
            String[] two = turn.split(" ");
            dueSame(4, two[0], two[1], NONE);
        }
    }

    /** Promise 9: "NONE: by none": knots that differ, whatever they have in common. */
    private static void p09None() {
        dueSame(4, "a", "", NONE);
        dueSame(4, "a", "b", NONE);
        dueSame(4, "a", "A", NONE);
        dueSame(4, "a", "aa", NONE);
        dueSame(4, "aaaaaa", "AAAAAA", NONE);
        dueSame(2, "aaaaa", "aaaaaa", NONE);
    }

    /** Promise 9: "the fewest SLIDES": the farthest row of all from the one without crossings, of 2, 3, 4 cords. */
    private static void p09TheFarthest() {
        dueSame(2, "", "aAaAaA", 3);
        dueSame(3, "", "ABabaB", 4);
        dueSame(4, "", "caCCAc", 5);
    }

    /** Promise 9: "UNKNOWN: both": the one, the other, both of them. */
    private static void p09UnknownBoth() {
        KnotSigns x = men("a", null, "a");
        refused("the one", x, () -> x.same(1, 0), UNKNOWN);
        refused("the other", x, () -> x.same(0, 1), UNKNOWN);
        refused("both", x, () -> x.same(1, 3), UNKNOWN);
        refused("one number twice", x, () -> x.same(1, 1), UNKNOWN);
        asked("men who have one", x, () -> x.same(2, 0), 0);
    }

    /** Promise 9: as many cords as there are then: what was found of other cords, or of an older row, is not told. */
    private static void p09BehindOtherCords() {
        KnotSigns x = men("", "a", "aA");
        due("4 cords", x.same(0, 2), 1);
        x.image(0);
        x.cords(2);
        x.teach(0);
        teach(x, 1, "aA");
        teach(x, 2, "a");
        due("2 cords", x.same(0, 1), 1);
        due("2 cords", x.same(0, 2), NONE);
        x.restore(0);
        due("4 cords again", x.same(0, 1), NONE);
        teach(x, 1, "Aa");
        due("taught anew", x.same(0, 1), 1);
    }

    /** Promise 10: "CROSSINGS (i = -1)": none is the fewest. */
    private static void p10NoCrossingLeft() {
        for (String row : new String[] {"", "aA", "Cc", "abBA", "aAbBcC", "caCA"}) {
            dueShort(4, row, "");
        }
    }

    /** Promise 10: six are the fewest; the row itself is one of all it becomes. */
    private static void p10SixCrossingsLeft() {
        dueShort(4, "CCCCCC", "CCCCCC");
        dueShort(4, "aaaaaa", "aaaaaa");
        dueShort(4, "abcabc", "aabacb");
        dueShort(3, "abABab", "abABab");
    }

    /** Promise 10, Terms: "the one of fewest CROSSINGS": fewer ones win over what comes first by SIGNS. */
    private static void p10FewestFirst() {
        dueShort(4, "aAc", "c");
        dueShort(4, "aAC", "C");
        dueShort(4, "acAa", "ac");
        dueShort(2, "aAA", "A");
    }

    /** Promise 10, Terms: "of several the first by SIGNS (the first CROSSING first)", small ones first. */
    private static void p10TheFirstBySigns() {
        dueShort(4, "ca", "ac");
        dueShort(4, "Ac", "cA");
        dueShort(4, "aC", "aC");
        dueShort(4, "CA", "AC");
        dueShort(4, "bab", "aba");
        dueShort(4, "CBC", "BCB");
        for (String row : new String[] {"abcA", "abAc", "Babc"}) {
            dueShort(4, row, "abcA");
        }
        for (String row : new String[] {"abAC", "abCA", "BabC"}) {
            dueShort(4, row, "abAC");
        }
    }

    /** Promise 10, Terms: "that a MAN's becomes so": a shorter one that only longer rows lead to is not one of them. */
    private static void p10NotByLongerRows() {
        dueShort(4, "aBAba", "aBAba");
        dueShort(4, "aaB", "aaB");
        dueShort(4, "abABab", "abABab");
    }

    /** Promise 10: "NONE (i below -1, too)": behind the shortest one's end, below -1. */
    private static void p10BehindAndBelow() {
        KnotSigns x = men("aAbBc", "", "CCCCCC");
        int[] sizes = {1, 0, 6};
        for (int man = 0; man < 3; man++) {
            for (int i : new int[] {sizes[man], sizes[man] + 1, 6, 7, HIGH, -2, -6, LOW}) {
                int him = man;
                asked("place " + i, x, () -> x.shortest(him, i), NONE);
            }
        }
    }

    /** Promise 10: of as many cords as there are then: what was found of other cords is not told. */
    private static void p10BehindOtherCords() {
        KnotSigns x = men("", "cC");
        due("4 cords", x.shortest(1, -1), 0);
        for (int cords : new int[] {2, 3, 4, 2}) {
            x.cords(cords);
            for (String row : new String[] {"A", "aaA", "Aa"}) {
                teach(x, 0, row);
                due(row, x.shortest(0, -1), row.equals("Aa") ? 0 : 1);
                due(row, x.shortest(0, 0), row.equals("A") ? 'A' : row.equals("Aa") ? NONE : 'a');
            }
        }
    }

    /** Promise 10: "UNKNOWN": whatever i is; and his row stays as it is. */
    private static void p10Unknown() {
        KnotSigns x = men("aAbBc");
        for (int i : new int[] {LOW, -2, -1, 0, HIGH}) {
            refused("no row", x, () -> x.shortest(1, i), UNKNOWN);
            refused("no man", x, () -> x.shortest(6, i), UNKNOWN);
        }
        x.shortest(0, 0);
        dueRow(x, 0, "aAbBc");
    }

    /** Promise 11: "How many ROWS a MAN's becomes by SLIDES (it, too)": it alone. */
    private static void p11ItAlone() {
        for (String row : new String[] {"aaaaaa", "CCCCCC", "aaaaa", "aBAba", "abABab"}) {
            KnotSigns x = men(row);
            asked("rows of " + row, x, () -> x.rows(0), 1);
        }
    }

    /** Promise 11: the most there are, of 2, 3, 4 cords: those of the row without crossings. */
    private static void p11TheMost() {
        int[] most = {29, 277, 1245};
        String[] far = {"aAaAaA", "ABabaB", "caCCAc"};
        for (int cords = 2; cords <= 4; cords++) {
            KnotSigns x = coast(cords, "", far[cords - 2]);
            due("rows of none", x.rows(0), most[cords - 2]);
            x.drown(0);
            due("rows of " + far[cords - 2], x.rows(1), most[cords - 2]);
        }
    }

    /** Promise 11, Terms: "of places that there are": the letters of more cords take no part. */
    private static void p11OnlyLettersThatThereAre() {
        int[] want = {7, 17, 47};
        for (int cords = 2; cords <= 4; cords++) {
            KnotSigns x = coast(cords, "aaaa");
            due("rows of aaaa, " + cords + " cords", x.rows(0), want[cords - 2]);
        }
    }

    /** Promise 11: a knot is told as it is, whatever knots were told before. */
    private static void p11OneBehindAnother() {
        KnotSigns x = men("", "aba", "bab", "c", "CCCCCC", "acacac");
        int[] want = {1245, 54, 54, 221, 1, 20};
        for (int step = 1; step <= 6; step++) {
            for (int k = 0; k < 12; k++) {
                int man = k * step % 6;
                due("rows of man " + man, x.rows(man), want[man]);
            }
        }
        teach(x, 0, "CCCCCC");
        due("taught anew", x.rows(0), 1);
    }

    /** Promise 11: of as many cords as there are then: what was found of other cords is not told. */
    private static void p11BehindOtherCords() {
        int[] want = {29, 277, 1245};
        KnotSigns x = new KnotSigns();
        for (int cords : new int[] {4, 2, 3, 4, 3, 2, 4}) {
            x.cords(cords);
            x.teach(0);
            due("rows of none, " + cords + " cords", x.rows(0), want[cords - 2]);
            teach(x, 1, "aaaa");
            due("rows of aaaa, " + cords + " cords", x.rows(1), cords == 2 ? 7 : cords == 3 ? 17 : 47);
            due("rows of none, once more", x.rows(0), want[cords - 2]);
        }
    }

    /** Promise 11: "UNKNOWN". */
    private static void p11Unknown() {
        KnotSigns x = men("a");
        refused("no row", x, () -> x.rows(1), UNKNOWN);
        refused("no man", x, () -> x.rows(-1), UNKNOWN);
        refused("no man", x, () -> x.rows(6), UNKNOWN);
    }

    /** Promise 12: "TWIST, and 100": the least and the most, and none. */
    private static void p12TheLeastAndTheMost() {
        KnotSigns x = men("CBACBA", "abcabc", "", "aA", "b", "B");
        int[] want = {94, 106, 100, 100, 101, 99};
        for (int man = 0; man < 6; man++) {
            int him = man;
            asked("twist of " + man, x, () -> x.twist(him), want[man]);
        }
    }

    /** Promise 12, Terms: "small letters less great ones": of every letter, of 2, 3, 4 cords. */
    private static void p12EveryLetter() {
        String[] letters = {"a", "ab", "abc"};
        for (int cords = 2; cords <= 4; cords++) {
            for (char small : letters[cords - 2].toCharArray()) {
                KnotSigns x = coast(cords, "" + small, "" + Character.toUpperCase(small));
                due("twist of " + small, x.twist(0), 101);
                due("twist of its great one", x.twist(1), 99);
            }
        }
    }

    /** Promise 12: "UNKNOWN". */
    private static void p12Unknown() {
        KnotSigns x = men("a");
        refused("no row", x, () -> x.twist(5), UNKNOWN);
        refused("no man", x, () -> x.twist(6), UNKNOWN);
        refused("no man", x, () -> x.twist(-1), UNKNOWN);
    }

    private static void dueEnds(String row, String want) {
        KnotSigns x = coast(want.length(), row);
        for (int cord = 0; cord < want.length(); cord++) {
            int one = cord;
            asked(row + " cord " + cord, x, () -> x.ends(0, one), want.charAt(cord) - '0');
        }
    }

    /** Promise 13: a row without crossings leaves each cord at its place. */
    private static void p13NoCrossing() {
        dueEnds("", "01");
        dueEnds("", "012");
        dueEnds("", "0123");
    }

    /** Promise 13, Terms: "the CORD at place 0, 1, 2 goes over that at the next place, and they change places". */
    private static void p13EachCrossing() {
        for (String row : new String[] {"a", "A"}) {
            dueEnds(row, "10");
            dueEnds(row, "102");
            dueEnds(row, "1023");
        }
        dueEnds("b", "021");
        dueEnds("B", "0213");
        dueEnds("c", "0132");
        dueEnds("C", "0132");
    }

    /** Promise 13, Terms: "at which place a CORD ends that begins at place k (CORD k)": from the first to the last. */
    private static void p13FromTheFirstToTheLast() {
        dueEnds("abc", "3012");
        dueEnds("cba", "1230");
        dueEnds("ABCabc", "2301");
        dueEnds("aaaaaa", "01");
        dueEnds("aaaaa", "10");
    }

    /** Promise 13: "UNKNOWN: both"; Terms: "CORDS 0 to n less 1". */
    private static void p13NoSuchCord() {
        for (int n = 2; n <= 4; n++) {
            KnotSigns x = coast(n, "a");
            for (int cord : new int[] {n, n + 1, 5, 256, 65536, HIGH, -1, -2, LOW}) {
                refused("cord " + cord, x, () -> x.ends(0, cord), UNKNOWN);
                refused("no row, cord " + cord, x, () -> x.ends(1, cord), UNKNOWN);
            }
            refused("no row", x, () -> x.ends(1, 0), UNKNOWN);
            refused("no man", x, () -> x.ends(6, 0), UNKNOWN);
        }
    }

    /** Promise 14: "ABOUT, and 100": the least and the most, and none. */
    private static void p14TheLeastAndTheMost() {
        KnotSigns x = men("AAAAAA", "cccccc", "", "aA", "bBbBbB");
        asked("the least", x, () -> x.about(0, 0, 1), 94);
        asked("the most", x, () -> x.about(1, 2, 3), 106);
        asked("no crossing", x, () -> x.about(2, 0, 3), 100);
        asked("one less one", x, () -> x.about(3, 0, 1), 100);
        asked("three less three", x, () -> x.about(4, 1, 2), 100);
        asked("others", x, () -> x.about(0, 0, 2), 100);
        asked("others", x, () -> x.about(0, 2, 3), 100);
    }

    /** Promise 14, Terms: "CROSSINGS between them": of the cords that began there, wherever they have come to. */
    private static void p14CordsThatHaveMoved() {
        KnotSigns x = men("abc", "abcC", "aBBa");
        int[][] abc = {{0, 101, 101, 101}, {101, 0, 100, 100}, {101, 100, 0, 100}, {101, 100, 100, 0}};
        int[][] aBBa = {{0, 102, 98, 100}, {102, 0, 100, 100}, {98, 100, 0, 100}, {100, 100, 100, 0}};
        for (int one = 0; one < 4; one++) {
            for (int two = 0; two < 4; two++) {
                if (one != two) {
                    due("abc " + one + " " + two, x.about(0, one, two), abc[one][two]);
                    due("aBBa " + one + " " + two, x.about(2, one, two), aBBa[one][two]);
                }
            }
        }
        due("abcC", x.about(1, 0, 3), 100);
        due("abcC", x.about(1, 3, 0), 100);
    }

    /** Promise 14: "UNKNOWN: .. also both CORDS are one". */
    private static void p14OneCord() {
        for (int n = 2; n <= 4; n++) {
            KnotSigns x = coast(n, "a");
            for (int cord = 0; cord < n; cord++) {
                int one = cord;
                refused("cord " + cord, x, () -> x.about(0, one, one), UNKNOWN);
            }
        }
    }

    /** Promise 14: "UNKNOWN: all"; Terms: "CORDS 0 to n less 1". */
    private static void p14NoSuchCord() {
        for (int n = 2; n <= 4; n++) {
            KnotSigns x = coast(n, "a");
            for (int cord : new int[] {n, n + 1, 5, 256, HIGH, -1, -2, LOW}) {
                refused("the one " + cord, x, () -> x.about(0, cord, 0), UNKNOWN);
                refused("the other " + cord, x, () -> x.about(0, 0, cord), UNKNOWN);
                refused("both " + cord, x, () -> x.about(0, cord, cord), UNKNOWN);
            }
            refused("no row", x, () -> x.about(1, 0, 1), UNKNOWN);
            refused("no man", x, () -> x.about(6, 0, 1), UNKNOWN);
            due("the last cord", x.about(0, n - 1, 0), n == 2 ? 101 : 100);
            due("the last cord", x.about(0, 0, n - 1), n == 2 ? 101 : 100);
        }
    }

    public static void main(String[] args) throws IllegalAccessException {
        run(EdgeSlidesTest.class);
    }
}
