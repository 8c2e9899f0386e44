import java.util.ArrayDeque;
import java.util.ArrayList;
import java.util.HashMap;
import java.util.List;
import java.util.Map;
import java.util.TreeSet;

/** Compares the class, call by call, with a slow one written over texts: runs by draws, and every row there is. */
public final class OracleTest {
    private static final int NONE = -6, UNKNOWN = -1, OUTSIDE = -2, STATE = -3, FULL = -4, NO = -5;
    private static final int RUNS = 600;
    private static final int CALLS = 512;
    private static int wrong = 0;

    // ---- the slow one

    private static final Map<String, Map<String, Integer>> KNOTS = new HashMap<>();

    static String signsOf(int cords) {
        return "abc".substring(0, cords - 1) + "ABC".substring(0, cords - 1);
    }

    static String flip(char sign) {
        return "" + (Character.isLowerCase(sign) ? Character.toUpperCase(sign) : Character.toLowerCase(sign));
    }

    /** All texts one slide away, found by putting one piece for another wherever it stands. */
    static List<String> slidesOf(String row, int cords) {
        List<String[]> pieces = new ArrayList<>();
        for (char sign : signsOf(cords).toCharArray()) {
            pieces.add(new String[] {sign + flip(sign), ""});
            pieces.add(new String[] {"", sign + flip(sign)});
        }
        String[] pairs = {"ac ca", "aC Ca", "Ac cA", "AC CA", "aba bab", "bcb cbc", "ABA BAB", "BCB CBC"};
        for (String pair : pairs) {
            String[] two = pair.split(" ");
            pieces.add(new String[] {two[0], two[1]});
            pieces.add(new String[] {two[1], two[0]});
        }
        List<String> found = new ArrayList<>();
        for (String[] piece : pieces) {
            for (int i = 0; i <= row.length(); i++) {
                String made = row.substring(0, i) + piece[1];
                if (row.startsWith(piece[0], i) && row.length() + piece[1].length() - piece[0].length() <= 6) {
                    found.add(made + row.substring(i + piece[0].length()));
                }
            }
        }
        return found;
    }

    static Map<String, Integer> knotOf(String row, int cords) {
        String key = cords + row;
        if (KNOTS.containsKey(key)) {
            return KNOTS.get(key);
        }
        Map<String, Integer> steps = new HashMap<>();
        ArrayDeque<String> next = new ArrayDeque<>();
        steps.put(row, 0);
        next.add(row);
        while (!next.isEmpty()) {
            String from = next.remove();
            for (String to : slidesOf(from, cords)) {
                if (!steps.containsKey(to)) {
                    steps.put(to, steps.get(from) + 1);
                    next.add(to);
                }
            }
        }
        KNOTS.put(key, steps);
        return steps;
    }

    /** Whether a stands before b: by signs abcABC, the first one first; both are as long. */
    static boolean before(String a, String b) {
        for (int i = 0; i < a.length(); i++) {
            int apart = "abcABC".indexOf(a.charAt(i)) - "abcABC".indexOf(b.charAt(i));
            if (apart != 0) {
                return apart < 0;
            }
        }
        return false;
    }

    static String shortOf(Map<String, Integer> knot) {
        String best = null;
        for (String row : knot.keySet()) {
            if (best == null || row.length() < best.length() || row.length() == best.length() && before(row, best)) {
                best = row;
            }
        }
        return best;
    }

    static int slipsOf(String a, String b) {
        if (a.isEmpty() || b.isEmpty()) {
            return a.length() + b.length();
        }
        int kept = slipsOf(a.substring(1), b.substring(1)) + (a.charAt(0) == b.charAt(0) ? 0 : 1);
        return Math.min(kept, 1 + Math.min(slipsOf(a.substring(1), b), slipsOf(a, b.substring(1))));
    }

    static boolean holds(String row, List<String> scraps, int from) {
        if (from == scraps.size()) {
            return true;
        }
        String scrap = scraps.get(from);
        for (int i = 0; i + scrap.length() <= row.length(); i++) {
            if (row.startsWith(scrap, i) && holds(row.substring(i + scrap.length()), scraps, from + 1)) {
                return true;
            }
        }
        return false;
    }

    /** GIVEN by trying every set of rows, in order. */
    static List<Integer> givenOf(int m, int d, int signs) {
        List<Integer> all = new ArrayList<>();
        for (int i = 0; i < signs; i++) {
            for (int j = 0; j < (m == 1 ? 1 : signs); j++) {
                all.add(m == 1 ? i : 10 * i + j);
            }
        }
        if (d == 1) {
            return all;
        }
        List<Integer> best = new ArrayList<>();
        tryGiven(all, 0, new ArrayList<>(), best, m, d);
        return best;
    }

    static void tryGiven(List<Integer> all, int from, List<Integer> taken, List<Integer> best, int m, int d) {
        if (taken.size() > best.size()) {
            best.clear();
            best.addAll(taken);
        }
        for (int i = from; i < all.size(); i++) {
            boolean fits = true;
            for (int row : taken) {
                int apart = (row % 10 != all.get(i) % 10 ? 1 : 0) + (m == 2 && row / 10 != all.get(i) / 10 ? 1 : 0);
                fits = fits && apart >= d;
            }
            if (fits) {
                taken.add(all.get(i));
                tryGiven(all, i + 1, taken, best, m, d);
                taken.remove(taken.size() - 1);
            }
        }
    }

    /** One state; an image is another one. */
    static final class Slow {
        String pad = "";
        int cords = 4;
        String[] rows = new String[6];
        List<String> scraps = new ArrayList<>();
        Slow[] images = new Slow[2];
        static final Map<String, List<Integer>> GIVEN = new HashMap<>();

        boolean none(int man) {
            return man < 0 || man > 5 || rows[man] == null;
        }

        int code(String row, int i) {
            return i == -1 ? row.length() : i < -1 || i >= row.length() ? NONE : row.charAt(i);
        }

        int cords(int n) {
            if (n < 2 || n > 4) {
                return OUTSIDE;
            }
            int was = cords;
            cords = n;
            rows = new String[6];
            scraps = new ArrayList<>();
            return was;
        }

        int say(int sign) {
            if (sign < 33 || sign > 126) {
                return OUTSIDE;
            }
            if (pad.length() == 40) {
                return FULL;
            }
            pad += (char) sign;
            return pad.length();
        }

        int wipe() {
            int were = pad.length();
            pad = "";
            return were;
        }

        int fault() {
            for (int i = 1; i <= pad.length(); i++) {
                String part = pad.substring(0, i);
                boolean many = part.length() - part.replace("?", "").length() > 3;
                if (i == 7 || many || (signsOf(cords) + "?").indexOf(part.charAt(i - 1)) < 0) {
                    return i - 1;
                }
            }
            return NONE;
        }

        int refused() {
            return fault() != NONE ? NO : pad.contains("?") ? STATE : 0;
        }

        int teach(int man) {
            if (man < 0 || man > 5) {
                return UNKNOWN;
            }
            if (refused() != 0) {
                return refused();
            }
            rows[man] = pad;
            return wipe();
        }

        int drown(int man) {
            if (none(man)) {
                return UNKNOWN;
            }
            rows[man] = null;
            return 1;
        }

        int row(int man, int i) {
            return none(man) ? UNKNOWN : code(rows[man], i);
        }

        int same(int man, int other) {
            if (none(man) || none(other)) {
                return UNKNOWN;
            }
            return knotOf(rows[man], cords).getOrDefault(rows[other], NONE);
        }

        int shortest(int man, int i) {
            return none(man) ? UNKNOWN : code(shortOf(knotOf(rows[man], cords)), i);
        }

        int rows(int man) {
            return none(man) ? UNKNOWN : knotOf(rows[man], cords).size();
        }

        static int twistOf(String row) {
            int sum = 100;
            for (char sign : row.toCharArray()) {
                sum += Character.isLowerCase(sign) ? 1 : -1;
            }
            return sum;
        }

        int twist(int man) {
            return none(man) ? UNKNOWN : twistOf(rows[man]);
        }

        /** The cords at the places behind each crossing, or how two cords cross. */
        int follow(String row, int cord, int other) {
            int[] at = {0, 1, 2, 3};
            int sum = 100;
            for (char sign : row.toCharArray()) {
                int k = Character.toLowerCase(sign) - 'a';
                if (at[k] == cord && at[k + 1] == other || at[k] == other && at[k + 1] == cord) {
                    sum += Character.isLowerCase(sign) ? 1 : -1;
                }
                int left = at[k];
                at[k] = at[k + 1];
                at[k + 1] = left;
            }
            for (int place = 0; other < 0 && place < 4; place++) {
                if (at[place] == cord) {
                    return place;
                }
            }
            return sum;
        }

        int ends(int man, int cord) {
            return none(man) || cord < 0 || cord >= cords ? UNKNOWN : follow(rows[man], cord, -1);
        }

        int about(int man, int cord, int other) {
            if (none(man) || cord < 0 || cord >= cords || other < 0 || other >= cords || cord == other) {
                return UNKNOWN;
            }
            return follow(rows[man], cord, other);
        }

        int slips(int man, int other) {
            return none(man) || none(other) ? UNKNOWN : slipsOf(rows[man], rows[other]);
        }

        int near(String row, int but, int what) {
            int best = NONE;
            for (int man = 5; man >= 0; man--) {
                if (man != but && rows[man] != null) {
                    int many = slipsOf(rows[man], row);
                    best = best == NONE || many <= best / 10 ? 10 * many + man : best;
                }
            }
            return best == NONE ? NONE : what == 0 ? best % 10 : best / 10;
        }

        int whose(int what) {
            if (what != 0 && what != 1) {
                return OUTSIDE;
            }
            return refused() != 0 ? refused() : near(pad, -1, what);
        }

        int forger(int man, int what) {
            if (none(man)) {
                return UNKNOWN;
            }
            return what != 0 && what != 1 ? OUTSIDE : near(rows[man], man, what);
        }

        int given(int m, int d, int i) {
            if (m < 1 || m > 2 || d < 1 || d > m) {
                return OUTSIDE;
            }
            String key = m + " " + d + " " + cords;
            if (!GIVEN.containsKey(key)) {
                GIVEN.put(key, givenOf(m, d, 2 * cords - 2));
            }
            List<Integer> best = GIVEN.get(key);
            return i == -1 ? best.size() : i < -1 || i >= best.size() ? NONE : best.get(i);
        }

        void fill(String row, Map<String, Integer> knot, List<String> found) {
            int lost = row.indexOf('?');
            if (lost < 0) {
                if (knot.containsKey(row)) {
                    found.add(row);
                }
                return;
            }
            for (char sign : signsOf(cords).toCharArray()) {
                fill(row.substring(0, lost) + sign + row.substring(lost + 1), knot, found);
            }
        }

        int worn(int man, int i) {
            if (none(man)) {
                return UNKNOWN;
            }
            if (fault() != NONE) {
                return NO;
            }
            List<String> found = new ArrayList<>();
            fill(pad, knotOf(rows[man], cords), found);
            if (i == -1) {
                return found.size();
            }
            String signs = "";
            for (int k = 0; k < pad.length() && !found.isEmpty(); k++) {
                signs += pad.charAt(k) == '?' ? "" + found.get(0).charAt(k) : "";
            }
            return i < -1 ? NONE : code(signs, i);
        }

        int scrap() {
            if (fault() != NONE || pad.isEmpty()) {
                return NO;
            }
            if (pad.contains("?")) {
                return STATE;
            }
            if (scraps.size() == 3) {
                return FULL;
            }
            scraps.add(pad);
            pad = "";
            return scraps.size();
        }

        int burn() {
            int were = scraps.size();
            scraps.clear();
            return were;
        }

        int who() {
            int bits = 0;
            for (int man = 0; man < 6; man++) {
                bits += rows[man] != null && holds(rows[man], scraps, 0) ? 1 << man : 0;
            }
            return bits;
        }

        int descent(int man, int of) {
            if (none(man) || of != -1 && none(of) || of == man) {
                return UNKNOWN;
            }
            List<Integer> others = new ArrayList<>();
            for (int x = 0; x < 6; x++) {
                if (x != man && rows[x] != null) {
                    others.add(x);
                }
            }
            int ways = 1;
            for (int k = 0; k < others.size(); k++) {
                ways *= 6;
            }
            int[][] far = new int[6][6];
            for (int x : others) {
                for (int y = 0; y < 6; y++) {
                    far[x][y] = rows[y] == null ? 0 : slipsOf(rows[x], rows[y]);
                }
            }
            int fewest = 999;
            int[] best = null;
            for (int way = 0; way < ways; way++) {
                int[] masters = new int[6];
                int rest = way;
                int sum = 0;
                boolean fits = true;
                for (int k = others.size() - 1; k >= 0; k--) {
                    masters[others.get(k)] = rest % 6;
                    fits = fits && rows[rest % 6] != null;
                    sum += far[others.get(k)][rest % 6];
                    rest /= 6;
                }
                for (int x : others) {
                    int up = x;
                    for (int k = 0; k < 6 && up != man; k++) {
                        up = masters[up];
                    }
                    fits = fits && up == man;
                }
                if (fits && sum < fewest) {
                    fewest = sum;
                    best = masters;
                }
            }
            return of == -1 ? fewest : best[of];
        }

        int year(int seed, int m, int man, int what) {
            if (none(man)) {
                return UNKNOWN;
            }
            if (seed < 0 || seed > 9999 || m < 0 || m > 99 || what < 0 || what > 1) {
                return OUTSIDE;
            }
            StringBuilder row = new StringBuilder(rows[man]);
            long x = seed;
            for (int k = 0; k < m; k++) {
                x = (75 * x + 74) % 65537;
                if (row.length() > 0) {
                    row.setCharAt((int) (x % row.length()), signsOf(cords).charAt((int) (x / 8 % (2 * cords - 2))));
                }
            }
            int many = 0;
            for (int k = 0; k < row.length(); k++) {
                many += row.charAt(k) != rows[man].charAt(k) ? 1 : 0;
            }
            return what == 0 ? many : twistOf(row.toString());
        }

        Slow copied() {
            Slow copy = new Slow();
            copy.cords = cords;
            copy.rows = rows.clone();
            copy.scraps = new ArrayList<>(scraps);
            return copy;
        }

        int image(int n) {
            if (n != 0 && n != 1) {
                return OUTSIDE;
            }
            images[n] = copied();
            return 1;
        }

        int restore(int n) {
            if (n != 0 && n != 1) {
                return OUTSIDE;
            }
            if (images[n] == null) {
                return STATE;
            }
            Slow was = images[n].copied();
            cords = was.cords;
            rows = was.rows;
            scraps = was.scraps;
            return 1;
        }

        int told(int what) {
            int men = 0;
            for (int man = 0; man < 6; man++) {
                men |= rows[man] == null ? 0 : 1 << man;
            }
            int[] all = {pad.length(), cords, men, scraps.size(), 2 * cords - 2};
            return what < 0 || what > 4 ? OUTSIDE : all[what];
        }
    }

    // ---- draws

    private static long drawn = 20240717;

    static int draw(int below) {
        drawn = drawn * 6364136223846793005L + 1442695040888963407L;
        return (int) ((drawn >>> 33) % below);
    }

    /** Mostly from low to high, sometimes beyond, seldom far off. */
    static int around(int low, int high) {
        int odd = draw(40);
        if (odd == 0) {
            return new int[] {Integer.MIN_VALUE, -2, -1, Integer.MAX_VALUE, 1 << 16, -7}[draw(6)];
        }
        return odd < 4 ? low - 1 + draw(high - low + 3) : low + draw(high - low + 1);
    }

    static String drawnRow(Slow slow) {
        String known = slow.rows[draw(6)];
        String row = "";
        int way = draw(8);
        if (way < 4 && known != null) {
            row = known;
            for (int k = draw(8); k > 0; k--) {
                List<String> next = slidesOf(row, slow.cords);
                row = next.isEmpty() ? row : next.get(draw(next.size()));
            }
        } else if (way > 4) {
            String signs = signsOf(way == 5 ? 2 + draw(slow.cords - 1) : slow.cords);
            for (int k = draw(7); k > 0; k--) {
                row += signs.charAt(draw(signs.length()));
            }
        }
        return row;
    }

    static String drawnPad(Slow slow) {
        StringBuilder row = new StringBuilder(drawnRow(slow));
        if (draw(5) == 0) {
            for (int k = draw(5); k > 0 && row.length() > 0; k--) {
                row.setCharAt(draw(row.length()), '?');
            }
        }
        if (draw(12) == 0) {
            row.insert(draw(row.length() + 1), (char) (33 + draw(94)));
        }
        if (draw(8) == 0 && row.length() > 2) {
            int from = draw(row.length());
            return row.substring(from, from + 1 + draw(row.length() - from));
        }
        return row.toString();
    }

    private static String trail = "";

    static void due(int run, String call, int got, int want) {
        trail += " " + call;
        if (got != want && wrong++ < 20) {
            System.out.println("run " + run + ": " + call + " answered " + got + ", due is " + want + " behind"
                + trail.substring(Math.max(0, trail.length() - 400)));
        }
    }

    static int write(int run, KnotSigns fast, Slow slow) {
        String text = drawnPad(slow);
        due(run, "wipe()", fast.wipe(), slow.wipe());
        for (char sign : text.toCharArray()) {
            due(run, "say(" + sign + ")", fast.say(sign), slow.say(sign));
        }
        due(run, "fault()", fast.fault(), slow.fault());
        return 2 + text.length();
    }

    static void change(int run, KnotSigns fast, Slow slow) {
        int man = around(0, 5);
        int n = around(0, 1);
        switch (draw(16)) {
            case 0 -> {
                int cords = draw(3) > 0 ? 4 : around(2, 4);
                due(run, "cords(" + cords + ")", fast.cords(cords), slow.cords(cords));
            }
            case 1 -> due(run, "drown(" + man + ")", fast.drown(man), slow.drown(man));
            case 2 -> due(run, "burn()", fast.burn(), slow.burn());
            case 3 -> due(run, "image(" + n + ")", fast.image(n), slow.image(n));
            case 4 -> due(run, "restore(" + n + ")", fast.restore(n), slow.restore(n));
            case 5, 6 -> due(run, "scrap()", fast.scrap(), slow.scrap());
            case 7 -> {
                int sign = around(33, 126);
                due(run, "say(" + sign + ")", fast.say(sign), slow.say(sign));
            }
            default -> due(run, "teach(" + man + ")", fast.teach(man), slow.teach(man));
        }
    }

    static void ask(int run, KnotSigns fast, Slow slow) {
        int man = around(0, 5), other = around(0, 5), i = around(-1, 6), what = around(0, 1), of = around(-1, 5);
        int cord = around(0, 3), second = around(0, 3), m = around(1, 2), d = around(1, 2);
        int seed = around(0, 9999), many = around(0, 99), far = around(-1, 36);
        String two = "(" + man + ", " + other + ")", at = "(" + man + ", " + i + ")", mw = "(" + man + ", " + what + ")";
        switch (draw(19)) {
            case 0 -> due(run, "fault()", fast.fault(), slow.fault());
            case 1 -> due(run, "row" + at, fast.row(man, i), slow.row(man, i));
            case 2, 3 -> due(run, "same" + two, fast.same(man, other), slow.same(man, other));
            case 4 -> due(run, "shortest" + at, fast.shortest(man, i), slow.shortest(man, i));
            case 5 -> due(run, "rows(" + man + ")", fast.rows(man), slow.rows(man));
            case 6 -> due(run, "twist(" + man + ")", fast.twist(man), slow.twist(man));
            case 7 -> due(run, "ends(" + man + ", " + cord + ")", fast.ends(man, cord), slow.ends(man, cord));
            case 8 -> due(run, "about(" + man + ", " + cord + ", " + second + ")",
                fast.about(man, cord, second), slow.about(man, cord, second));
            case 9 -> due(run, "slips" + two, fast.slips(man, other), slow.slips(man, other));
            case 10 -> due(run, "whose(" + what + ")", fast.whose(what), slow.whose(what));
            case 11 -> due(run, "forger" + mw, fast.forger(man, what), slow.forger(man, what));
            case 12 -> due(run, "given(" + m + ", " + d + ", " + far + ")", fast.given(m, d, far), slow.given(m, d, far));
            case 13, 14 -> due(run, "worn" + at, fast.worn(man, i), slow.worn(man, i));
            case 15 -> due(run, "who()", fast.who(), slow.who());
            case 16 -> due(run, "descent(" + man + ", " + of + ")", fast.descent(man, of), slow.descent(man, of));
            case 17 -> due(run, "year(" + seed + ", " + many + ", " + man + ", " + what + ")",
                fast.year(seed, many, man, what), slow.year(seed, many, man, what));
            default -> due(run, "told(" + far % 6 + ")", fast.told(far % 6), slow.told(far % 6));
        }
    }

    static void runByDraws(int run) {
        KnotSigns fast = new KnotSigns();
        Slow slow = new Slow();
        trail = "";
        int calls = 0;
        while (calls < CALLS - 12) {
            int kind = draw(4);
            if (kind == 0) {
                calls += write(run, fast, slow);
            }
            if (kind < 2) {
                change(run, fast, slow);
            } else {
                ask(run, fast, slow);
            }
            calls++;
        }
        for (int what = 0; what < 5; what++) {
            due(run, "told(" + what + ")", fast.told(what), slow.told(what));
        }
    }

    // ---- every row

    static void everyRow(int cords) {
        TreeSet<String> left = new TreeSet<>();
        left.add("");
        List<String> last = List.of("");
        for (int size = 1; size <= 6; size++) {
            List<String> next = new ArrayList<>();
            for (String row : last) {
                for (char sign : signsOf(cords).toCharArray()) {
                    next.add(row + sign);
                }
            }
            left.addAll(next);
            last = next;
        }
        int most = 0;
        while (!left.isEmpty()) {
            Map<String, Integer> knot = knotOf(left.first(), cords);
            KNOTS.clear();
            most = Math.max(most, knot.size());
            String least = shortOf(knot);
            for (String row : knot.keySet()) {
                dueKnot(row, cords, knot.size(), least);
                left.remove(row);
            }
        }
        System.out.println("OracleTest: " + cords + " cords: a knot has " + most + " rows at most");
    }

    static void dueKnot(String row, int cords, int size, String least) {
        KnotSigns fast = new KnotSigns();
        fast.cords(cords);
        for (char sign : row.toCharArray()) {
            fast.say(sign);
        }
        fast.teach(0);
        trail = " " + row;
        due(cords, "rows of " + row, fast.rows(0), size);
        due(cords, "shortest of " + row, fast.shortest(0, -1), least.length());
        for (int i = 0; i < least.length(); i++) {
            due(cords, "shortest of " + row + " at " + i, fast.shortest(0, i), least.charAt(i));
        }
    }

    public static void main(String[] args) {
        for (int run = 0; run < RUNS; run++) {
            runByDraws(run);
        }
        for (int cords = 2; cords <= 4; cords++) {
            everyRow(cords);
        }
        System.out.println("OracleTest: " + (wrong == 0 ? "all as due" : wrong + " wrong"));
        if (wrong != 0) {
            System.exit(1);
        }
    }
}
