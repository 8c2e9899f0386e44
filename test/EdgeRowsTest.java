import java.lang.reflect.Modifier;
import java.util.Arrays;

/** Boundary cases of what binds every promise, and of promises 1 to 8. */
public final class EdgeRowsTest extends Edges {
    // ---- what binds every promise

    /** What it is: "An object is used for at most 512 calls after it has been made": the 512th is one of them. */
    private static void p00The512thCallIsAnswered() {
        KnotSigns x = new KnotSigns();
        int calls = 0;
        for (char sign : "aba".toCharArray()) {
            due("say", x.say(sign), ++calls);
        }
        due("teach", x.teach(0), 3);
        for (calls = 5; calls <= 511; calls++) {
            due("call " + calls, x.say('a'), calls <= 44 ? calls - 4 : FULL);
        }
        due("call 512", x.rows(0), 54);
    }

    /** What it is: "at most 512 calls": all of them may be dear, each about another knot than the last one. */
    private static void p00AllCallsMayBeDear() {
        KnotSigns x = men("", "aba", "c");
        for (int call = 0; call < 165; call++) {
            due("rows of none", x.rows(0), 1245);
            due("rows of aba", x.rows(1), 54);
            due("rows of c", x.rows(2), 221);
        }
    }

    /** The public face: "NONE = -6, UNKNOWN = -1, OUTSIDE = -2, STATE = -3, FULL = -4, NO = -5". */
    private static void p00Constants() {
        due("NONE", KnotSigns.NONE, -6);
        due("UNKNOWN", KnotSigns.UNKNOWN, -1);
        due("OUTSIDE", KnotSigns.OUTSIDE, -2);
        due("STATE", KnotSigns.STATE, -3);
        due("FULL", KnotSigns.FULL, -4);
        due("NO", KnotSigns.NO, -5);
    }

    /** The public face: KnotSigns is final; it has these members and no other public ones. */
    private static void p00Face() {
        due("public methods", (int) Arrays.stream(KnotSigns.class.getDeclaredMethods())
            .filter(m -> Modifier.isPublic(m.getModifiers())).count(), 26);
        due("public fields", KnotSigns.class.getFields().length, 6);
        due("public constructors", KnotSigns.class.getConstructors().length, 1);
        due("final", Modifier.isFinal(KnotSigns.class.getModifiers()) ? 1 : 0, 1);
    }

    /** Terms: "there is no such MAN": each call that takes a man refuses every number but 0 to 5. */
    private static void p00NoSuchMan() {
        KnotSigns x = men("a", "ab", "b", "", "c", "C");
        for (int man : NO_MEN) {
            refused("teach " + man, x, () -> x.teach(man), UNKNOWN);
            refused("drown " + man, x, () -> x.drown(man), UNKNOWN);
            refused("row " + man, x, () -> x.row(man, -1), UNKNOWN);
            refused("same of " + man, x, () -> x.same(man, 0), UNKNOWN);
            refused("same to " + man, x, () -> x.same(0, man), UNKNOWN);
            refused("same of both " + man, x, () -> x.same(man, man), UNKNOWN);
            refused("shortest " + man, x, () -> x.shortest(man, -1), UNKNOWN);
            refused("rows " + man, x, () -> x.rows(man), UNKNOWN);
            refused("twist " + man, x, () -> x.twist(man), UNKNOWN);
            refused("ends " + man, x, () -> x.ends(man, 0), UNKNOWN);
            refused("about " + man, x, () -> x.about(man, 0, 1), UNKNOWN);
            refused("slips of " + man, x, () -> x.slips(man, 0), UNKNOWN);
            refused("slips to " + man, x, () -> x.slips(0, man), UNKNOWN);
            refused("slips of both " + man, x, () -> x.slips(man, man), UNKNOWN);
            refused("forger " + man, x, () -> x.forger(man, 0), UNKNOWN);
            refused("worn " + man, x, () -> x.worn(man, -1), UNKNOWN);
            refused("descent " + man, x, () -> x.descent(man, -1), UNKNOWN);
            refused("descent from " + man, x, () -> x.descent(man, 0), UNKNOWN);
            refused("year " + man, x, () -> x.year(0, 0, man, 0), UNKNOWN);
        }
    }

    /** Terms: "MEN 0 to 5": each of them can have a row, the first and the last, too. */
    private static void p00SixMen() {
        KnotSigns x = men("a", "ab", "abc", "abca", "abcab", "abcabc");
        for (int man = 0; man < 6; man++) {
            dueRow(x, man, "abcabc".substring(0, man + 1));
            due("twist " + man, x.twist(man), 101 + man);
            due("slips " + man, x.slips(man, 5), 5 - man);
        }
    }

    /** Terms: "MEN .. some of whom have a ROW": a man who has none is refused by all calls that ask about his row. */
    private static void p00NoRowIsUnknown() {
        KnotSigns x = men("a", null, "b");
        refused("drown", x, () -> x.drown(1), UNKNOWN);
        refused("row", x, () -> x.row(1, -1), UNKNOWN);
        refused("same", x, () -> x.same(1, 0), UNKNOWN);
        refused("same", x, () -> x.same(0, 1), UNKNOWN);
        refused("same", x, () -> x.same(1, 1), UNKNOWN);
        refused("shortest", x, () -> x.shortest(1, -1), UNKNOWN);
        refused("rows", x, () -> x.rows(1), UNKNOWN);
        refused("twist", x, () -> x.twist(1), UNKNOWN);
        refused("ends", x, () -> x.ends(1, 0), UNKNOWN);
        refused("about", x, () -> x.about(1, 0, 1), UNKNOWN);
        refused("slips", x, () -> x.slips(1, 0), UNKNOWN);
        refused("slips", x, () -> x.slips(0, 1), UNKNOWN);
        refused("forger", x, () -> x.forger(1, 0), UNKNOWN);
        refused("worn", x, () -> x.worn(1, -1), UNKNOWN);
        refused("descent", x, () -> x.descent(1, -1), UNKNOWN);
        refused("descent", x, () -> x.descent(0, 1), UNKNOWN);
        refused("year", x, () -> x.year(0, 0, 1, 0), UNKNOWN);
    }

    // ---- 1 cords, rows

    /** Promise 1: "Four CORDS"; Terms: "4 at first". */
    private static void p01FourCords() {
        KnotSigns x = new KnotSigns();
        due("cords", x.told(1), 4);
        due("signs there are", x.told(4), 6);
        pad(x, "abcABC");
        due("all of them can stand", x.fault(), NONE);
        due("cords were", x.cords(3), 4);
    }

    /** Promise 1: "no MAN has a ROW"; Terms: "none at first". */
    private static void p01NoManHasARow() {
        KnotSigns x = new KnotSigns();
        due("men", x.told(2), 0);
        for (int man = 0; man < 6; man++) {
            int him = man;
            refused("row of " + man, x, () -> x.row(him, -1), UNKNOWN);
            refused("drown " + man, x, () -> x.drown(him), UNKNOWN);
        }
        due("who", x.who(), 0);
        due("whose", x.whose(0), NONE);
    }

    /** Promise 1: a new object has an empty pad, no scraps, no image. */
    private static void p01NothingElse() {
        KnotSigns x = new KnotSigns();
        due("signs", x.told(0), 0);
        due("wipe", x.wipe(), 0);
        due("fault", x.fault(), NONE);
        due("scraps", x.told(3), 0);
        due("burn", x.burn(), 0);
        due("image 0", x.restore(0), STATE);
        due("image 1", x.restore(1), STATE);
    }

    /** Promise 1: a new object is new, whatever another one has become. */
    private static void p01ObjectsAreApart() {
        KnotSigns x = coast(2, "a", "A");
        scrap(x, "a");
        x.image(0);
        say(x, "aa");
        p01FourCords();
        p01NoManHasARow();
        p01NothingElse();
        due("the first one's cords", x.told(1), 2);
        due("the first one's men", x.told(2), 3);
    }

    /** Promise 2: OUTSIDE; Terms: "n 2 to 4": less than 2. */
    private static void p02FewerThanTwoCords() {
        KnotSigns x = men("abc", "", null, null, null, "C");
        scrap(x, "c");
        say(x, "cb");
        for (int n : new int[] {1, 0, -1, -2, -4, LOW, LOW + 2}) {
            refused("cords " + n, x, () -> x.cords(n), OUTSIDE);
        }
    }

    /** Promise 2: OUTSIDE; Terms: "n 2 to 4": more than 4. */
    private static void p02MoreThanFourCords() {
        KnotSigns x = men("abc", "", null, null, null, "C");
        scrap(x, "c");
        say(x, "cb");
        for (int n : new int[] {5, 6, 7, 258, 260, 65538, HIGH}) {
            refused("cords " + n, x, () -> x.cords(n), OUTSIDE);
        }
    }

    /** Promise 2, Terms: "n 2 to 4": 2, 3 and 4 are taken. */
    private static void p02TwoToFourCords() {
        KnotSigns x = new KnotSigns();
        for (int n : new int[] {2, 3, 4, 2, 4, 3, 2}) {
            x.cords(n);
            due("cords", x.told(1), n);
            due("signs there are", x.told(4), 2 * n - 2);
        }
    }

    /** Promise 2: "How many CORDS: which it was." */
    private static void p02WhichItWas() {
        KnotSigns x = new KnotSigns();
        due("4, then 2", x.cords(2), 4);
        due("2, then 3", x.cords(3), 2);
        due("3, then 4", x.cords(4), 3);
        due("4, then 5", x.cords(5), OUTSIDE);
        due("4, then 4", x.cords(4), 4);
        due("4 again, then 3", x.cords(3), 4);
    }

    /** Promise 2: "No MAN has a ROW then": of all six. */
    private static void p02AllRowsGo() {
        for (int n = 2; n <= 4; n++) {
            KnotSigns x = men("a", "", "aaaaaa", "A", "aA", "AAAAAA");
            due("men", x.told(2), 63);
            x.cords(n);
            due("men then", x.told(2), 0);
            for (int man = 0; man < 6; man++) {
                due("row of " + man, x.row(man, -1), UNKNOWN);
            }
        }
    }

    /** Promise 2: "No MAN has a ROW then; SCRAPS go": also if there are as many cords as there were. */
    private static void p02AsManyCordsAsThereWere() {
        for (int n = 2; n <= 4; n++) {
            KnotSigns x = coast(n, "a", "A");
            scrap(x, "a");
            due("cords", x.cords(n), n);
            due("men", x.told(2), 0);
            due("scraps", x.told(3), 0);
        }
    }

    /** Promise 2: "SCRAPS go": all three; three more can come. */
    private static void p02AllScrapsGo() {
        KnotSigns x = men("a");
        for (int i = 0; i < 3; i++) {
            scrap(x, "b");
        }
        x.cords(3);
        due("scraps", x.told(3), 0);
        due("burn", x.burn(), 0);
        teach(x, 0, "a");
        due("no scrap is left", x.who(), 1);
        for (int i = 1; i <= 3; i++) {
            pad(x, "a");
            due("scrap", x.scrap(), i);
        }
    }

    /** Promise 2: what it does not name stays: the pad (its signs are looked at by the cords there are), images. */
    private static void p02ThePadAndImagesStay() {
        KnotSigns x = men("abc");
        x.image(1);
        say(x, "abcABC");
        x.cords(3);
        due("signs", x.told(0), 6);
        due("fault of 3 cords", x.fault(), 2);
        x.cords(2);
        due("fault of 2 cords", x.fault(), 1);
        x.cords(4);
        due("fault of 4 cords", x.fault(), NONE);
        due("teach", x.teach(1), 6);
        dueRow(x, 1, "abcABC");
        due("restore", x.restore(1), 1);
        dueRow(x, 0, "abc");
    }

    /** Promise 3: OUTSIDE; Terms: "codes 33 to 126": less than 33. */
    private static void p03CodesBelow33() {
        KnotSigns x = men("a");
        say(x, "ab");
        for (int sign : new int[] {32, 31, 13, 10, 0, -1, -6, -33, -97, LOW, LOW + 97}) {
            refused("say " + sign, x, () -> x.say(sign), OUTSIDE);
        }
    }

    /** Promise 3: OUTSIDE; Terms: "codes 33 to 126": more than 126; no code wraps around to one that is told. */
    private static void p03CodesAbove126() {
        KnotSigns x = men("a");
        say(x, "ab");
        for (int sign : new int[] {127, 128, 255, 256, 256 + 97, 65536 + 97, 1 << 24, HIGH}) {
            refused("say " + sign, x, () -> x.say(sign), OUTSIDE);
        }
    }

    /** Promise 3, Terms: "codes 33 to 126": every one of them, the first and the last, too. */
    private static void p03EveryCode() {
        KnotSigns x = new KnotSigns();
        due("the first", x.say(33), 1);
        due("the last", x.say(126), 2);
        for (int sign = 33; sign <= 126; sign++) {
            x.wipe();
            due("say " + sign, x.say(sign), 1);
        }
    }

    /** Promise 3: "A sign more: how many"; Terms: "40 SIGNS at most": the 40th is taken. */
    private static void p03FortySigns() {
        KnotSigns x = new KnotSigns();
        for (int i = 1; i <= 40; i++) {
            due("say", x.say(i % 2 == 0 ? 'a' : '~'), i);
        }
        due("signs", x.told(0), 40);
        due("wipe", x.wipe(), 40);
    }

    /** Promise 3: FULL; Terms: "40 SIGNS at most": the 41st is refused, and is taken once there is room. */
    private static void p03FortyFirstSign() {
        KnotSigns x = men("a");
        say(x, times('a', 40));
        refused("the 41st", x, () -> x.say('a'), FULL);
        refused("another 41st", x, () -> x.say('?'), FULL);
        x.wipe();
        due("room again", x.say('a'), 1);
    }

    /** Promise 3, Terms: "the first of these that fits": OUTSIDE, then FULL. */
    private static void p03OutsideThenFull() {
        KnotSigns x = new KnotSigns();
        say(x, times('a', 40));
        for (int sign : new int[] {32, 127, LOW, HIGH}) {
            refused("say " + sign, x, () -> x.say(sign), OUTSIDE);
        }
    }

    /** Promise 4: "Signs go: how many there were": none. */
    private static void p04NoSigns() {
        KnotSigns x = men("a");
        asked("wipe", x, x::wipe, 0);
    }

    /** Promise 4: "Signs go: how many there were": one, forty; none is left behind. */
    private static void p04AllSignsGo() {
        KnotSigns x = men("a");
        say(x, "d");
        due("one", x.wipe(), 1);
        due("no fault is left", x.fault(), NONE);
        say(x, times('d', 40));
        due("forty", x.wipe(), 40);
        due("signs", x.told(0), 0);
        due("again", x.wipe(), 0);
        say(x, "b");
        due("teach", x.teach(1), 1);
        dueRow(x, 1, "b");
    }

    /** Promise 4: signs go, and nothing else does. */
    private static void p04OnlySignsGo() {
        KnotSigns x = men("a", "bc");
        scrap(x, "b");
        String before = seen(x);
        say(x, "abc");
        x.wipe();
        if (!seen(x).equals(before)) {
            fail("changed " + before + " to " + seen(x));
        }
    }

    private static void dueFault(int cords, String text, int want) {
        KnotSigns x = coast(cords, "a");
        say(x, text);
        asked("fault of " + text, x, x::fault, want);
    }

    /** Promise 5: "NONE": an empty pad has no fault. */
    private static void p05AnEmptyPad() {
        for (int cords = 2; cords <= 4; cords++) {
            dueFault(cords, "", NONE);
        }
    }

    /** Promise 5, Terms: "A ROW is of 6 CROSSINGS at most": six can stand. */
    private static void p05SixCrossings() {
        dueFault(4, "abcABC", NONE);
        dueFault(4, "aaaaaa", NONE);
        dueFault(4, "???CCC", NONE);
        dueFault(4, "CCC???", NONE);
        dueFault(2, "aAaAaA", NONE);
    }

    /** Promise 5, Terms: "a seventh, too": at place 6, whatever it is and whatever follows. */
    private static void p05TheSeventh() {
        dueFault(4, "abcABCa", 6);
        dueFault(4, "abcABC?", 6);
        dueFault(4, "abcABCd", 6);
        dueFault(4, "a?b?c?a", 6);
        dueFault(4, "a?b?c??", 6);
        dueFault(4, times('a', 40), 6);
        dueFault(2, "aaaaaaa", 6);
    }

    /** Promise 5, Terms: "? (a CROSSING that is lost: 3 at most)": three can stand. */
    private static void p05ThreeLost() {
        dueFault(4, "?", NONE);
        dueFault(4, "??", NONE);
        dueFault(4, "???", NONE);
        dueFault(4, "?a?b?c", NONE);
        dueFault(2, "a?A?a?", NONE);
    }

    /** Promise 5, Terms: "3 at most": the fourth that is lost can not stand there. */
    private static void p05TheFourthLost() {
        dueFault(4, "????", 3);
        dueFault(4, "a????", 4);
        dueFault(4, "?a?b??", 5);
        dueFault(4, "???a?b?", 4);
        dueFault(4, "???abc?", 6);
        dueFault(4, times('?', 40), 3);
    }

    /** Promise 5, Terms: "the place (from 0 on) of the first sign that can not stand there": of several the first. */
    private static void p05TheFirstOfSeveral() {
        dueFault(4, "d", 0);
        dueFault(4, "daaaaaaa", 0);
        dueFault(4, "add", 1);
        dueFault(4, "aaaaad", 5);
        dueFault(4, "aaaaada", 5);
        dueFault(4, "???d?", 3);
        dueFault(4, "????d", 3);
        dueFault(4, "aaaaaa!!", 6);
    }

    /** Promise 5, Terms: "a, b, c .. or A, B, C .. of places that there are": of all codes these alone, and ?. */
    private static void p05SignsThatThereAre() {
        String[] there = {"aA?", "abAB?", "abcABC?"};
        for (int cords = 2; cords <= 4; cords++) {
            KnotSigns x = coast(cords);
            for (char sign = 33; sign <= 126; sign++) {
                pad(x, "" + sign);
                due(cords + " cords: " + sign, x.fault(), there[cords - 2].indexOf(sign) < 0 ? 0 : NONE);
                pad(x, "aA" + sign);
                due(cords + " cords: aA" + sign, x.fault(), there[cords - 2].indexOf(sign) < 0 ? 2 : NONE);
            }
        }
    }

    /** Promise 6: "UNKNOWN: 0 to 5": the first and the last are men, those beside them are none. */
    private static void p06ManZeroToFive() {
        KnotSigns x = new KnotSigns();
        say(x, "a");
        refused("man -1", x, () -> x.teach(-1), UNKNOWN);
        refused("man 6", x, () -> x.teach(6), UNKNOWN);
        due("man 0", x.teach(0), 1);
        due("man 5", x.teach(5), 0);
        due("men", x.told(2), 33);
        dueRow(x, 0, "a");
        dueRow(x, 5, "");
    }

    /** Promise 6: "The PAD becomes a MAN's ROW .. CROSSINGS": none at all. */
    private static void p06NoCrossing() {
        KnotSigns x = men("abc");
        due("teach", x.teach(0), 0);
        dueRow(x, 0, "");
        due("he has a row", x.told(2), 1);
        due("crossings", x.row(0, -1), 0);
    }

    /** Promise 6, Terms: "A ROW is of 6 CROSSINGS at most": six. */
    private static void p06SixCrossings() {
        KnotSigns x = new KnotSigns();
        say(x, "cbaCBA");
        due("teach", x.teach(3), 6);
        dueRow(x, 3, "cbaCBA");
    }

    /** Promise 6: "(it is empty then)". */
    private static void p06ThePadIsEmptyThen() {
        KnotSigns x = men("b");
        say(x, "abcABC");
        x.teach(1);
        due("signs", x.told(0), 0);
        due("wipe", x.wipe(), 0);
        due("the next sign", x.say('c'), 1);
        dueRow(x, 1, "abcABC");
        x.teach(2);
        dueRow(x, 2, "c");
    }

    /** Promise 6: "The PAD becomes a MAN's ROW": what he had before is gone, and no other one's changes. */
    private static void p06AShorterRowThanBefore() {
        KnotSigns x = men("abcABC", "abcABC");
        teach(x, 0, "Cb");
        dueRow(x, 0, "Cb");
        for (int i = 2; i < 7; i++) {
            due("place " + i, x.row(0, i), NONE);
        }
        dueRow(x, 1, "abcABC");
        due("twist", x.twist(0), 100);
    }

    /** Promise 6: "NO: there is a FAULT": of each kind. */
    private static void p06Fault() {
        for (String text : FAULTY) {
            KnotSigns x = men("ab");
            say(x, text);
            refused("teach " + text, x, () -> x.teach(0), NO);
            refused("teach another one " + text, x, () -> x.teach(1), NO);
        }
        KnotSigns x = coast(2, "a");
        say(x, "ab");
        refused("b of 2 cords", x, () -> x.teach(0), NO);
    }

    /** Promise 6: "STATE: there is some ?": one, three. */
    private static void p06Lost() {
        for (String text : new String[] {"?", "a?", "?a", "???", "abc???"}) {
            KnotSigns x = men("ab");
            say(x, text);
            refused("teach " + text, x, () -> x.teach(0), STATE);
            refused("teach another one " + text, x, () -> x.teach(1), STATE);
        }
    }

    /** Promise 6, Terms: "the first of these that fits": UNKNOWN, then NO, then STATE. */
    private static void p06UnknownThenNoThenState() {
        KnotSigns x = men("ab");
        say(x, "?d");
        refused("unknown and no", x, () -> x.teach(6), UNKNOWN);
        refused("no and state", x, () -> x.teach(5), NO);
        pad(x, "?");
        refused("unknown and state", x, () -> x.teach(-1), UNKNOWN);
        refused("state", x, () -> x.teach(0), STATE);
    }

    /** Promise 7: "A MAN has no ROW any more: 1": the first, the last; no other one. */
    private static void p07TheFirstAndTheLast() {
        KnotSigns x = men("a", "b", "c", "A", "B", "C");
        due("drown 0", x.drown(0), 1);
        due("men", x.told(2), 62);
        due("drown 5", x.drown(5), 1);
        due("men", x.told(2), 30);
        due("row", x.row(5, -1), UNKNOWN);
        dueRow(x, 4, "B");
    }

    /** Promise 7: "UNKNOWN: nor had he": at first, behind drown, behind cords. */
    private static void p07NorHadHe() {
        KnotSigns x = men("a", "b");
        refused("at first", x, () -> x.drown(2), UNKNOWN);
        due("drown", x.drown(1), 1);
        refused("twice", x, () -> x.drown(1), UNKNOWN);
        x.cords(4);
        refused("behind cords", x, () -> x.drown(0), UNKNOWN);
    }

    /** Promise 7: a row of no crossing is a row. */
    private static void p07ARowOfNoCrossing() {
        KnotSigns x = men("");
        due("drown", x.drown(0), 1);
        due("men", x.told(2), 0);
    }

    /** Promise 7: who is drowned can be taught again; nothing of his old row comes back. */
    private static void p07TaughtAgain() {
        KnotSigns x = men("abcABC");
        x.drown(0);
        teach(x, 0, "b");
        dueRow(x, 0, "b");
        due("behind it", x.row(0, 1), NONE);
    }

    /** Promise 8: "CROSSINGS of a MAN's ROW (i = -1)": none, one, six. */
    private static void p08HowMany() {
        KnotSigns x = men("", "B", "CbAcBa");
        asked("none", x, () -> x.row(0, -1), 0);
        asked("one", x, () -> x.row(1, -1), 1);
        asked("six", x, () -> x.row(2, -1), 6);
    }

    /** Promise 8: "the i-th (its code)": the first, the last, every sign there is. */
    private static void p08TheFirstAndTheLast() {
        String[] all = {"aA", "BbaA", "CbAcBa"};
        for (int cords = 2; cords <= 4; cords++) {
            KnotSigns x = coast(cords, all[cords - 2]);
            for (int i = 0; i < all[cords - 2].length(); i++) {
                due(cords + " cords, place " + i, x.row(0, i), all[cords - 2].charAt(i));
            }
        }
    }

    /** Promise 8: "NONE": at the end of the row and behind it. */
    private static void p08BehindTheRow() {
        KnotSigns x = men("", "B", "CbAcBa");
        int[] sizes = {0, 1, 6};
        for (int man = 0; man < 3; man++) {
            for (int i : new int[] {sizes[man], sizes[man] + 1, 7, 40, 255, 65536, HIGH}) {
                int him = man;
                asked("place " + i, x, () -> x.row(him, i), NONE);
            }
        }
    }

    /** Promise 8: "NONE (i below -1, too)". */
    private static void p08BelowMinusOne() {
        KnotSigns x = men("abc", "");
        for (int i : new int[] {-2, -3, -6, -256, LOW}) {
            asked("place " + i, x, () -> x.row(0, i), NONE);
            asked("place " + i + " of none", x, () -> x.row(1, i), NONE);
        }
    }

    /** Promise 8: "UNKNOWN (a MAN who has no ROW, too)": whatever i is. */
    private static void p08Unknown() {
        KnotSigns x = men("abc");
        for (int i : new int[] {LOW, -2, -1, 0, 6, HIGH}) {
            refused("no man", x, () -> x.row(6, i), UNKNOWN);
            refused("no row", x, () -> x.row(5, i), UNKNOWN);
        }
    }

    public static void main(String[] args) throws IllegalAccessException {
        run(EdgeRowsTest.class);
    }
}
