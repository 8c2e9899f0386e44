/** For each promise: ordinary inputs, the edges that the document names, wrong inputs. */
public final class PromiseTest {
    private static final int NONE = -6, UNKNOWN = -1, OUTSIDE = -2, STATE = -3, FULL = -4, NO = -5;
    private static final int LOW = Integer.MIN_VALUE, HIGH = Integer.MAX_VALUE;
    private static int wrong = 0;

    private static void due(String what, int got, int want) {
        if (got != want) {
            wrong++;
            System.out.println(what + " answered " + got + ", due is " + want);
        }
    }

    private static void pad(KnotSigns x, String text) {
        x.wipe();
        for (int i = 0; i < text.length(); i++) {
            due("say in " + text, x.say(text.charAt(i)), i + 1);
        }
    }

    private static void teach(KnotSigns x, int man, String text) {
        pad(x, text);
        due("teach " + man + " " + text, x.teach(man), text.length());
    }

    private static KnotSigns men(String... rows) {
        KnotSigns x = new KnotSigns();
        for (int man = 0; man < rows.length; man++) {
            if (rows[man] != null) {
                teach(x, man, rows[man]);
            }
        }
        return x;
    }

    private static String rowOf(KnotSigns x, int man) {
        StringBuilder text = new StringBuilder();
        for (int i = 0; i < x.row(man, -1); i++) {
            text.append((char) x.row(man, i));
        }
        return text.toString();
    }

    private static void dueRow(KnotSigns x, int man, String want) {
        due("row size of " + man, x.row(man, -1), want.length());
        if (!rowOf(x, man).equals(want)) {
            wrong++;
            System.out.println("row of " + man + " is " + rowOf(x, man) + ", due is " + want);
        }
    }

    private static void p01New() {
        KnotSigns x = new KnotSigns();
        due("p1 signs", x.told(0), 0);
        due("p1 cords", x.told(1), 4);
        due("p1 men", x.told(2), 0);
        due("p1 scraps", x.told(3), 0);
        due("p1 image 0", x.restore(0), STATE);
        due("p1 image 1", x.restore(1), STATE);
        for (int man = 0; man < 6; man++) {
            due("p1 row", x.row(man, -1), UNKNOWN);
        }
        due("p1 constants", KnotSigns.NONE, NONE);
        due("p1 constants", KnotSigns.UNKNOWN, UNKNOWN);
        due("p1 constants", KnotSigns.OUTSIDE, OUTSIDE);
        due("p1 constants", KnotSigns.STATE, STATE);
        due("p1 constants", KnotSigns.FULL, FULL);
        due("p1 constants", KnotSigns.NO, NO);
    }

    private static void p02Cords() {
        KnotSigns x = men("abc", null, "c");
        pad(x, "ab");
        due("p2 scrap", x.scrap(), 1);
        pad(x, "abc");
        for (int n : new int[] {LOW, -1, 0, 1, 5, HIGH}) {
            due("p2 cords " + n, x.cords(n), OUTSIDE);
        }
        due("p2 refused leaves men", x.told(2), 5);
        due("p2 refused leaves scraps", x.told(3), 1);
        due("p2 the same again", x.cords(4), 4);
        due("p2 men go", x.told(2), 0);
        due("p2 scraps go", x.told(3), 0);
        due("p2 the pad stays", x.told(0), 3);
        due("p2 to 2", x.cords(2), 4);
        due("p2 fault of b", x.fault(), 1);
        due("p2 to 3", x.cords(3), 2);
        due("p2 fault of c", x.fault(), 2);
        due("p2 to 4", x.cords(4), 3);
        due("p2 no fault", x.fault(), NONE);
    }

    private static void p03Say() {
        KnotSigns x = new KnotSigns();
        for (int sign : new int[] {LOW, -1, 0, 32, 127, HIGH}) {
            due("p3 say " + sign, x.say(sign), OUTSIDE);
        }
        due("p3 none said", x.told(0), 0);
        due("p3 first code", x.say(33), 1);
        due("p3 last code", x.say(126), 2);
        for (int i = 3; i <= 40; i++) {
            due("p3 say", x.say('a'), i);
        }
        due("p3 outside before full", x.say(32), OUTSIDE);
        due("p3 full", x.say('a'), FULL);
        due("p3 still 40", x.told(0), 40);
    }

    private static void p04Wipe() {
        KnotSigns x = new KnotSigns();
        due("p4 nothing", x.wipe(), 0);
        pad(x, "ab~");
        due("p4 three", x.wipe(), 3);
        due("p4 gone", x.told(0), 0);
        due("p4 again", x.wipe(), 0);
        due("p4 first again", x.say('b'), 1);
    }

    private static void p05Fault() {
        KnotSigns x = new KnotSigns();
        String[] texts = {"", "abcABC", "abcABCa", "d", "aD", "ab@", "a`", "???", "????", "a?b?c?", "?a?a??", "abcabc?",
            "abcabcz", "[a", "aaz?", "aaaaaa!"};
        int[] places = {NONE, NONE, 6, 0, 1, 2, 1, NONE, 3, NONE, 5, 6, 6, 0, 2, 6};
        for (int i = 0; i < texts.length; i++) {
            pad(x, texts[i]);
            due("p5 fault " + texts[i], x.fault(), places[i]);
        }
        x.cords(3);
        pad(x, "abABc");
        due("p5 c of 3 cords", x.fault(), 4);
        pad(x, "C");
        due("p5 C of 3 cords", x.fault(), 0);
        x.cords(2);
        pad(x, "aA?B");
        due("p5 B of 2 cords", x.fault(), 3);
        pad(x, "aAb");
        due("p5 b of 2 cords", x.fault(), 2);
    }

    private static void p06Teach() {
        KnotSigns x = new KnotSigns();
        teach(x, 0, "abcABC");
        due("p6 the pad is empty", x.told(0), 0);
        dueRow(x, 0, "abcABC");
        due("p6 no crossing", x.teach(5), 0);
        due("p6 men", x.told(2), 33);
        pad(x, "x?");
        for (int man : new int[] {LOW, -1, 6, HIGH}) {
            due("p6 man " + man, x.teach(man), UNKNOWN);
        }
        due("p6 fault before lost", x.teach(0), NO);
        pad(x, "a?");
        due("p6 lost", x.teach(0), STATE);
        due("p6 refused keeps the pad", x.told(0), 2);
        due("p6 refused teaches none", x.teach(1), STATE);
        due("p6 men still", x.told(2), 33);
        dueRow(x, 0, "abcABC");
        teach(x, 0, "Cb");
        dueRow(x, 0, "Cb");
    }

    private static void p07Drown() {
        KnotSigns x = men("a", "b");
        for (int man : new int[] {LOW, -1, 2, 6, HIGH}) {
            due("p7 man " + man, x.drown(man), UNKNOWN);
        }
        due("p7 drown", x.drown(1), 1);
        due("p7 men", x.told(2), 1);
        due("p7 twice", x.drown(1), UNKNOWN);
        dueRow(x, 0, "a");
        due("p7 drown the first", x.drown(0), 1);
        due("p7 nobody", x.told(2), 0);
        teach(x, 5, "a");
        due("p7 drown the last", x.drown(5), 1);
        due("p7 nobody", x.told(2), 0);
    }

    private static void p08Row() {
        KnotSigns x = men("aBc", "");
        due("p8 size", x.row(0, -1), 3);
        due("p8 first", x.row(0, 0), 'a');
        due("p8 second", x.row(0, 1), 'B');
        due("p8 third", x.row(0, 2), 'c');
        for (int i : new int[] {3, 6, HIGH, -2, LOW}) {
            due("p8 place " + i, x.row(0, i), NONE);
        }
        due("p8 empty", x.row(1, -1), 0);
        due("p8 empty", x.row(1, 0), NONE);
        for (int man : new int[] {LOW, -1, 2, 6, HIGH}) {
            due("p8 man " + man, x.row(man, -2), UNKNOWN);
        }
    }

    private static void dueSame(String one, String two, int want) {
        KnotSigns x = men(one, two);
        due("p9 " + one + " to " + two, x.same(0, 1), want);
        due("p9 " + two + " to " + one, x.same(1, 0), want);
        due("p9 " + one + " to itself", x.same(0, 0), 0);
    }

    private static void p09Same() {
        dueSame("aA", "", 1);
        dueSame("Aa", "aA", 2);
        dueSame("ac", "ca", 1);
        dueSame("aC", "Ca", 1);
        dueSame("AC", "CA", 1);
        dueSame("ab", "ba", NONE);
        dueSame("bc", "cb", NONE);
        dueSame("aba", "bab", 1);
        dueSame("cbc", "bcb", 1);
        dueSame("ABA", "BAB", 1);
        dueSame("CBC", "BCB", 1);
        dueSame("aca", "cac", NONE);
        dueSame("aBa", "BaB", NONE);
        dueSame("abA", "Bab", 3);
        dueSame("ab", "", NONE);
        dueSame("aaaaaa", "AAAAAA", NONE);
        dueSame("abABab", "abABab", 0);
        KnotSigns x = men("a", "a");
        x = men("", "aA", "ab", "aAab", "c", "CCCCCC");
        int[][] want = {{0, 1, NONE, NONE, NONE, NONE}, {1, 0, NONE, NONE, NONE, NONE}, {NONE, NONE, 0, 1, NONE, NONE},
            {NONE, NONE, 1, 0, NONE, NONE}, {NONE, NONE, NONE, NONE, 0, NONE}, {NONE, NONE, NONE, NONE, NONE, 0}};
        for (int all = 0; all < 72; all++) {
            int man = all * 7 % 36 / 6;
            int other = all * 7 % 6;
            due("p9 " + man + " to " + other, x.same(man, other), want[man][other]);
        }
        x = men("", "cC");
        due("p9 of 4 cords", x.same(0, 1), 1);
        x.cords(2);
        x.teach(0);
        teach(x, 1, "aA");
        due("p9 then of 2 cords", x.same(0, 1), 1);
        x = men("a", "a");
        due("p9 none there", x.same(0, 2), UNKNOWN);
        due("p9 none there", x.same(2, 0), UNKNOWN);
        due("p9 none", x.same(-1, 0), UNKNOWN);
        due("p9 none", x.same(0, HIGH), UNKNOWN);
    }

    private static void p10Shortest() {
        KnotSigns x = men("aAbBc", "bab", "Aa", "ca", "CA");
        due("p10 size", x.shortest(0, -1), 1);
        due("p10 sign", x.shortest(0, 0), 'c');
        due("p10 behind", x.shortest(0, 1), NONE);
        due("p10 below", x.shortest(0, -2), NONE);
        due("p10 low", x.shortest(0, LOW), NONE);
        due("p10 high", x.shortest(0, HIGH), NONE);
        due("p10 aba before bab", x.shortest(1, 0), 'a');
        due("p10 aba before bab", x.shortest(1, 1), 'b');
        due("p10 nothing left", x.shortest(2, -1), 0);
        due("p10 nothing left", x.shortest(2, 0), NONE);
        due("p10 ac before ca", x.shortest(3, 0), 'a');
        due("p10 AC before CA", x.shortest(4, 0), 'A');
        due("p10 man", x.shortest(5, 0), UNKNOWN);
        due("p10 man", x.shortest(-1, -1), UNKNOWN);
        due("p10 man", x.shortest(6, -1), UNKNOWN);
        dueRow(x, 0, "aAbBc");
        x = men("c", "CCCCCC", "bA", "cbaCBA");
        due("p10 the shortest itself", x.shortest(0, -1), 1);
        due("p10 the shortest itself", x.shortest(0, 0), 'c');
        due("p10 alone", x.shortest(1, -1), 6);
        due("p10 alone", x.shortest(1, 5), 'C');
        due("p10 bA itself", x.shortest(2, -1), 2);
        due("p10 bA itself", x.shortest(2, 0), 'b');
        due("p10 bA itself", x.shortest(2, 1), 'A');
    }

    private static void p11Rows() {
        KnotSigns x = men("", "aaaaaa", "acacac", "abc");
        due("p11 none of 4 cords", x.rows(0), 1245);
        due("p11 alone", x.rows(1), 1);
        due("p11 three of each", x.rows(2), 20);
        teach(x, 5, "CCCCCC");
        due("p11 the last row of all", x.rows(5), 1);
        due("p11 man", x.rows(4), UNKNOWN);
        due("p11 man", x.rows(6), UNKNOWN);
        due("p11 man", x.rows(LOW), UNKNOWN);
        x.cords(2);
        due("p11 teach", x.teach(0), 0);
        due("p11 none of 2 cords", x.rows(0), 29);
        teach(x, 1, "a");
        due("p11 a of 2 cords", x.rows(1), 14);
        x.cords(3);
        due("p11 teach", x.teach(0), 0);
        due("p11 none of 3 cords", x.rows(0), 277);
    }

    private static void p12Twist() {
        KnotSigns x = men("abc", "ABCABC", "aB", "", "aabbcc");
        int[] want = {103, 94, 100, 100, 106};
        for (int man = 0; man < want.length; man++) {
            due("p12 twist " + man, x.twist(man), want[man]);
        }
        due("p12 man", x.twist(5), UNKNOWN);
        due("p12 man", x.twist(-1), UNKNOWN);
        due("p12 man", x.twist(6), UNKNOWN);
    }

    private static void p13Ends() {
        KnotSigns x = men("abc", "AbA", "");
        int[][] want = {{3, 0, 1, 2}, {2, 1, 0, 3}, {0, 1, 2, 3}};
        for (int man = 0; man < want.length; man++) {
            for (int cord = 0; cord < 4; cord++) {
                due("p13 ends " + man + " " + cord, x.ends(man, cord), want[man][cord]);
            }
        }
        for (int cord : new int[] {LOW, -1, 4, HIGH}) {
            due("p13 cord " + cord, x.ends(0, cord), UNKNOWN);
        }
        due("p13 man", x.ends(3, 0), UNKNOWN);
        due("p13 man", x.ends(6, 0), UNKNOWN);
        x.cords(2);
        teach(x, 0, "a");
        due("p13 of 2 cords", x.ends(0, 1), 0);
        due("p13 of 2 cords", x.ends(0, 2), UNKNOWN);
    }

    private static void p14About() {
        KnotSigns x = men("aa", "aB", "abAbcc", "AAAAAA");
        due("p14 aa", x.about(0, 0, 1), 102);
        due("p14 aa other way", x.about(0, 1, 0), 102);
        due("p14 aa others", x.about(0, 0, 2), 100);
        due("p14 aB", x.about(1, 0, 1), 101);
        due("p14 aB", x.about(1, 0, 2), 99);
        due("p14 aB", x.about(1, 1, 2), 100);
        due("p14 AAAAAA", x.about(3, 0, 1), 94);
        int sum = 0;
        for (int cord = 0; cord < 4; cord++) {
            for (int other = cord + 1; other < 4; other++) {
                sum += x.about(2, cord, other) - 100;
            }
        }
        due("p14 all together are the twist", sum + 100, x.twist(2));
        due("p14 one cord", x.about(0, 2, 2), UNKNOWN);
        due("p14 cord", x.about(0, -1, 0), UNKNOWN);
        due("p14 cord", x.about(0, 0, 4), UNKNOWN);
        due("p14 man", x.about(4, 0, 1), UNKNOWN);
        due("p14 man", x.about(-1, 0, 1), UNKNOWN);
    }

    private static void p15Slips() {
        KnotSigns x = men("abc", "bc", "abC", "", "cba", "babcab");
        int[][] want = {{0, 1, 1, 3, 2, 3}, {1, 0, 2, 2, 2, 4}, {1, 2, 0, 3, 2, 4}, {3, 2, 3, 0, 3, 6},
            {2, 2, 2, 3, 0, 4}, {3, 4, 4, 6, 4, 0}};
        for (int man = 0; man < 6; man++) {
            for (int other = 0; other < 6; other++) {
                due("p15 slips " + man + " " + other, x.slips(man, other), want[man][other]);
            }
        }
        x.drown(5);
        due("p15 man", x.slips(5, 0), UNKNOWN);
        due("p15 man", x.slips(0, 5), UNKNOWN);
        due("p15 man", x.slips(6, 0), UNKNOWN);
        due("p15 man", x.slips(0, -1), UNKNOWN);
    }

    private static void p16Whose() {
        KnotSigns x = new KnotSigns();
        due("p16 no man", x.whose(0), NONE);
        due("p16 no man", x.whose(1), NONE);
        pad(x, "?");
        due("p16 lost before none", x.whose(0), STATE);
        x.wipe();
        x = men(null, "abc", "bc", "ab", "bc");
        pad(x, "bc");
        due("p16 the first", x.whose(0), 2);
        due("p16 slips", x.whose(1), 0);
        due("p16 the pad stays", x.told(0), 2);
        pad(x, "b");
        due("p16 first of as few", x.whose(0), 2);
        due("p16 slips", x.whose(1), 1);
        x.wipe();
        due("p16 empty pad", x.whose(0), 2);
        due("p16 empty pad", x.whose(1), 2);
        pad(x, "a?d");
        due("p16 outside first", x.whose(2), OUTSIDE);
        due("p16 outside first", x.whose(-1), OUTSIDE);
        due("p16 fault before lost", x.whose(0), NO);
        pad(x, "a?");
        due("p16 lost", x.whose(1), STATE);
    }

    private static void p17Forger() {
        KnotSigns x = men("ab", "abc", "abC", null, "ab");
        due("p17 man", x.forger(0, 0), 4);
        due("p17 slips", x.forger(0, 1), 0);
        due("p17 first of as few", x.forger(1, 0), 0);
        due("p17 slips", x.forger(1, 1), 1);
        due("p17 unknown first", x.forger(3, 2), UNKNOWN);
        due("p17 unknown", x.forger(-1, 0), UNKNOWN);
        due("p17 unknown", x.forger(6, 0), UNKNOWN);
        due("p17 outside", x.forger(0, 2), OUTSIDE);
        due("p17 outside", x.forger(0, -1), OUTSIDE);
        x = men(null, "a");
        due("p17 no other", x.forger(1, 0), NONE);
        due("p17 no other", x.forger(1, 1), NONE);
        due("p17 outside before none", x.forger(1, 2), OUTSIDE);
    }

    private static void p18Given() {
        KnotSigns x = new KnotSigns();
        for (int cords = 2; cords <= 4; cords++) {
            int signs = 2 * (cords - 1);
            x.cords(cords);
            due("p18 1 1", x.given(1, 1, -1), signs);
            due("p18 2 1", x.given(2, 1, -1), signs * signs);
            due("p18 2 2", x.given(2, 2, -1), signs);
            for (int i = 0; i < signs; i++) {
                due("p18 1 1", x.given(1, 1, i), i);
                due("p18 2 2", x.given(2, 2, i), 11 * i);
                for (int j = 0; j < signs; j++) {
                    due("p18 2 1", x.given(2, 1, i * signs + j), 10 * i + j);
                }
            }
            due("p18 behind", x.given(1, 1, signs), NONE);
            due("p18 behind", x.given(2, 2, signs), NONE);
            due("p18 behind", x.given(2, 1, signs * signs), NONE);
        }
        due("p18 below", x.given(1, 1, -2), NONE);
        due("p18 low", x.given(2, 2, LOW), NONE);
        due("p18 high", x.given(2, 1, HIGH), NONE);
        int[][] outside = {{0, 1}, {3, 1}, {-1, 1}, {1, 0}, {1, 2}, {2, 0}, {2, 3}, {0, 0}, {3, 3}, {HIGH, HIGH}};
        for (int[] md : outside) {
            due("p18 outside " + md[0] + " " + md[1], x.given(md[0], md[1], -1), OUTSIDE);
        }
    }

    private static void p19Worn() {
        KnotSigns x = men("aba", "", "c");
        pad(x, "b?b");
        due("p19 ways", x.worn(0, -1), 1);
        due("p19 sign", x.worn(0, 0), 'a');
        due("p19 behind", x.worn(0, 1), NONE);
        due("p19 below", x.worn(0, -2), NONE);
        due("p19 low", x.worn(0, LOW), NONE);
        due("p19 the pad stays", x.told(0), 3);
        pad(x, "??");
        due("p19 any and its undoing", x.worn(1, -1), 6);
        due("p19 first", x.worn(1, 0), 'a');
        due("p19 second", x.worn(1, 1), 'A');
        due("p19 no way", x.worn(0, -1), 0);
        due("p19 no way", x.worn(0, 0), NONE);
        pad(x, "a?A");
        due("p19 between", x.worn(2, -1), 1);
        due("p19 between", x.worn(2, 0), 'c');
        pad(x, "A?a?");
        due("p19 two lost", x.worn(2, -1), countOf("A?a?", "c"));
        x.wipe();
        due("p19 nothing is lost", x.worn(1, -1), 1);
        due("p19 nothing is lost", x.worn(1, 0), NONE);
        due("p19 nothing is lost", x.worn(2, -1), 0);
        pad(x, "bab");
        due("p19 no ?", x.worn(0, -1), 1);
        pad(x, "d");
        due("p19 unknown first", x.worn(3, -1), UNKNOWN);
        due("p19 unknown", x.worn(6, -1), UNKNOWN);
        due("p19 fault", x.worn(0, -1), NO);
        pad(x, "????");
        due("p19 four lost", x.worn(0, -1), NO);
    }

    /** The ways to fill two lost ones, each way taught and compared. */
    private static int countOf(String text, String knot) {
        int many = 0;
        for (char p : "abcABC".toCharArray()) {
            for (char q : "abcABC".toCharArray()) {
                KnotSigns y = men(knot, text.replaceFirst("\\?", "" + p).replaceFirst("\\?", "" + q));
                many += y.same(1, 0) == NONE ? 0 : 1;
            }
        }
        return many;
    }

    private static void p20Scrap() {
        KnotSigns x = new KnotSigns();
        due("p20 nothing", x.scrap(), NO);
        pad(x, "?d");
        due("p20 fault", x.scrap(), NO);
        pad(x, "a?");
        due("p20 lost", x.scrap(), STATE);
        due("p20 refused keeps the pad", x.told(0), 2);
        for (int i = 1; i <= 3; i++) {
            pad(x, "abcabc");
            due("p20 scrap", x.scrap(), i);
            due("p20 the pad is empty", x.told(0), 0);
        }
        due("p20 nothing before full", x.scrap(), NO);
        pad(x, "?");
        due("p20 lost before full", x.scrap(), STATE);
        pad(x, "ab");
        due("p20 full", x.scrap(), FULL);
        due("p20 full keeps the pad", x.told(0), 2);
        due("p20 full", x.told(3), 3);
    }

    private static void p21Burn() {
        KnotSigns x = men("a");
        due("p21 none", x.burn(), 0);
        pad(x, "b");
        x.scrap();
        pad(x, "b");
        x.scrap();
        due("p21 he has none", x.who(), 0);
        due("p21 two", x.burn(), 2);
        due("p21 gone", x.told(3), 0);
        due("p21 all have none", x.who(), 1);
        due("p21 again", x.burn(), 0);
    }

    private static void dueWho(String row, String[] scraps, int want) {
        KnotSigns x = men(null, row);
        for (String scrap : scraps) {
            pad(x, scrap);
            x.scrap();
        }
        due("p22 " + row + " of " + String.join(",", scraps), x.who(), want);
    }

    private static void p22Who() {
        due("p22 no man", new KnotSigns().who(), 0);
        dueWho("abc", new String[] {}, 2);
        dueWho("", new String[] {}, 2);
        dueWho("", new String[] {"a"}, 0);
        dueWho("abc", new String[] {"abc"}, 2);
        dueWho("abc", new String[] {"ac"}, 0);
        dueWho("abc", new String[] {"a", "c"}, 2);
        dueWho("abc", new String[] {"c", "a"}, 0);
        dueWho("abc", new String[] {"ab", "bc"}, 0);
        dueWho("abbc", new String[] {"ab", "bc"}, 2);
        dueWho("aaa", new String[] {"aa", "aa"}, 0);
        dueWho("aaaa", new String[] {"aa", "aa"}, 2);
        dueWho("aaaaaa", new String[] {"aa", "aa", "aa"}, 2);
        dueWho("aaaaaa", new String[] {"aa", "aaa", "aa"}, 0);
        dueWho("aabab", new String[] {"ab", "ab"}, 2);
        dueWho("aA", new String[] {"A", "a"}, 0);
        dueWho("ca", new String[] {"ac"}, 0);
        KnotSigns x = men("abc", "cab", null, "bca", "abab", "Abc");
        pad(x, "a");
        x.scrap();
        pad(x, "b");
        x.scrap();
        due("p22 bits", x.who(), 1 + 2 + 16);
    }

    private static void p23Descent() {
        KnotSigns x = men("a", "ab", "abc");
        due("p23 slips", x.descent(0, -1), 2);
        due("p23 master", x.descent(0, 1), 0);
        due("p23 master", x.descent(0, 2), 1);
        due("p23 himself", x.descent(0, 0), UNKNOWN);
        due("p23 from the last", x.descent(2, 0), 1);
        due("p23 from the last", x.descent(2, 1), 2);
        for (int man : new int[] {LOW, -1, 3, 6, HIGH}) {
            due("p23 man " + man, x.descent(man, -1), UNKNOWN);
        }
        for (int of : new int[] {LOW, -2, 3, 6, HIGH}) {
            due("p23 of " + of, x.descent(0, of), UNKNOWN);
        }
        // All are one slip from each other: of several descents the least masters, the least man's first.
        x = men("a", "b", "c", "A", "B", "C");
        due("p23 alike slips", x.descent(3, -1), 5);
        due("p23 alike 0", x.descent(3, 0), 1);
        due("p23 alike 1", x.descent(3, 1), 2);
        due("p23 alike 2", x.descent(3, 2), 3);
        due("p23 alike 4", x.descent(3, 4), 0);
        due("p23 alike 5", x.descent(3, 5), 0);
        // Who is drowned is nobody's master; who is taught anew has other slips.
        x.drown(1);
        x.drown(4);
        teach(x, 5, "abcabc");
        due("p23 fewer men", x.descent(2, -1), 7);
        due("p23 fewer men 0", x.descent(2, 0), 2);
        due("p23 fewer men 3", x.descent(2, 3), 0);
        due("p23 fewer men 5", x.descent(2, 5), 0);
        due("p23 drowned", x.descent(2, 1), UNKNOWN);
        due("p23 drowned", x.descent(1, -1), UNKNOWN);
        x = men(null, null, "a");
        due("p23 alone", x.descent(2, -1), 0);
        due("p23 alone", x.descent(2, 2), UNKNOWN);
    }

    private static void p24Year() {
        KnotSigns x = men("a", "aaa", "", "abcABC");
        due("p24 a becomes A", x.year(0, 1, 0, 0), 1);
        due("p24 A is -1", x.year(0, 1, 0, 1), 99);
        dueRow(x, 0, "a");
        // x: 74, 5624 (2, 703 left over by 6 is 1: b)
        due("p24 two slips, one place", x.year(0, 2, 0, 1), 101);
        due("p24 two slips, one place", x.year(0, 2, 0, 0), 1);
        // 74 left over by 3 is 2 (A); 5624 left over by 3 is 2 (b)
        due("p24 of three", x.year(0, 1, 1, 1), 101);
        due("p24 of three", x.year(0, 2, 1, 0), 1);
        due("p24 of three", x.year(0, 2, 1, 1), 103);
        // aaa becomes BaB, abcABC becomes aCcACa, and aaABCB behind the other seed
        due("p24 of three, 99 slips", x.year(77, 99, 1, 0), 2);
        due("p24 of three, 99 slips", x.year(77, 99, 1, 1), 99);
        due("p24 of six, 99 slips", x.year(9999, 99, 3, 0), 3);
        due("p24 of six, 99 slips", x.year(9999, 99, 3, 1), 100);
        due("p24 of six, 98 slips", x.year(4711, 98, 3, 0), 5);
        due("p24 of six, 98 slips", x.year(4711, 98, 3, 1), 98);
        dueRow(x, 3, "abcABC");
        due("p24 none", x.year(9999, 0, 3, 0), 0);
        due("p24 none", x.year(9999, 0, 3, 1), 100);
        due("p24 no crossing", x.year(9999, 99, 2, 0), 0);
        due("p24 no crossing", x.year(9999, 99, 2, 1), 100);
        due("p24 unknown first", x.year(-1, 0, 4, 0), UNKNOWN);
        due("p24 unknown", x.year(0, 0, -1, 0), UNKNOWN);
        due("p24 unknown", x.year(0, 0, 6, 0), UNKNOWN);
        int[][] outside = {{-1, 0, 0}, {10000, 0, 0}, {0, -1, 0}, {0, 100, 0}, {0, 0, -1}, {0, 0, 2}, {LOW, 0, 0},
            {HIGH, HIGH, HIGH}};
        for (int[] y : outside) {
            due("p24 outside", x.year(y[0], y[1], 0, y[2]), OUTSIDE);
        }
        x.cords(2);
        teach(x, 0, "a");
        // 74 by 8 is 9, left over by 2 is 1: A
        due("p24 of 2 cords", x.year(0, 1, 0, 1), 99);
        // 5624 by 8 is 703: A
        due("p24 of 2 cords", x.year(0, 2, 0, 1), 99);
    }

    private static void p25Image() {
        KnotSigns x = men("abc", "b");
        pad(x, "c");
        x.scrap();
        pad(x, "ab");
        due("p25 image", x.image(1), 1);
        due("p25 the pad stays", x.told(0), 2);
        due("p25 the rest stays", x.told(2), 3);
        for (int n : new int[] {LOW, -1, 2, HIGH}) {
            due("p25 image " + n, x.image(n), OUTSIDE);
        }
        due("p25 the other one was not kept", x.restore(0), STATE);
        teach(x, 0, "C");
        due("p25 the first still", x.image(0), 1);
        x.restore(1);
        dueRow(x, 0, "abc");
        x.restore(0);
        dueRow(x, 0, "C");
        x.burn();
        pad(x, "bb");
        x.scrap();
        pad(x, "b");
        x.scrap();
        x.restore(0);
        due("p25 scraps are kept", x.told(3), 1);
        due("p25 scraps are kept", x.who(), 0);
        teach(x, 2, "ac");
        due("p25 the scrap is c", x.who(), 4);
        x.restore(0);
        x.drown(1);
        due("p25 kept anew", x.image(1), 1);
        x.restore(0);
        due("p25 as at first", x.told(2), 3);
        x.restore(1);
        due("p25 as anew", x.told(2), 1);
    }

    private static void p26Restore() {
        KnotSigns x = men("abc", null, "b");
        pad(x, "c");
        x.scrap();
        pad(x, "ab");
        due("p26 not kept", x.restore(0), STATE);
        x.image(0);
        x.cords(2);
        x.burn();
        pad(x, "aaa?");
        due("p26 restore", x.restore(0), 1);
        due("p26 cords", x.told(1), 4);
        due("p26 men", x.told(2), 5);
        due("p26 scraps", x.told(3), 1);
        due("p26 who", x.who(), 1);
        due("p26 the pad is as it is", x.told(0), 4);
        dueRow(x, 0, "abc");
        dueRow(x, 2, "b");
        teach(x, 0, "a");
        due("p26 twice", x.restore(0), 1);
        dueRow(x, 0, "abc");
        for (int n : new int[] {LOW, -1, 2, HIGH}) {
            due("p26 restore " + n, x.restore(n), OUTSIDE);
        }
        due("p26 the other one", x.restore(1), STATE);
        // What is found by slides is not taken over from other cords.
        x = new KnotSigns();
        x.teach(0);
        x.image(0);
        due("p26 rows of 4 cords", x.rows(0), 1245);
        x.cords(2);
        x.teach(0);
        due("p26 rows of 2 cords", x.rows(0), 29);
        x.restore(0);
        due("p26 rows of 4 cords again", x.rows(0), 1245);
    }

    private static void p27Told() {
        KnotSigns x = men("a", null, null, "b", null, "c");
        pad(x, "a");
        x.scrap();
        pad(x, "abc?!");
        due("p27 signs", x.told(0), 5);
        due("p27 cords", x.told(1), 4);
        due("p27 men", x.told(2), 1 + 8 + 32);
        due("p27 scraps", x.told(3), 1);
        due("p27 signs there are", x.told(4), 6);
        x.cords(3);
        due("p27 of 3 cords", x.told(1), 3);
        due("p27 of 3 cords", x.told(4), 4);
        x.cords(2);
        due("p27 of 2 cords", x.told(4), 2);
        for (int what : new int[] {LOW, -1, 5, HIGH}) {
            due("p27 told " + what, x.told(what), OUTSIDE);
        }
    }

    public static void main(String[] args) {
        p01New(); p02Cords(); p03Say(); p04Wipe(); p05Fault(); p06Teach(); p07Drown(); p08Row(); p09Same();
        p10Shortest(); p11Rows(); p12Twist(); p13Ends(); p14About(); p15Slips(); p16Whose(); p17Forger();
        p18Given(); p19Worn(); p20Scrap(); p21Burn(); p22Who(); p23Descent(); p24Year(); p25Image();
        p26Restore(); p27Told();
        System.out.println("PromiseTest: " + (wrong == 0 ? "all as due" : wrong + " wrong"));
        if (wrong != 0) {
            System.exit(1);
        }
    }
}
