/** A coast on which men sign by the knot they were taught. README.md tells how to use it. */
public final class KnotSigns {
    public static final int NONE = -6, UNKNOWN = -1, OUTSIDE = -2, STATE = -3, FULL = -4, NO = -5;

    private static final int LEAST_CORDS = 2;
    private static final int MOST_CORDS = 4;
    private static final int MEN = 6;
    private static final int NOBODY = -1;
    private static final int MOST_CROSSINGS = 6;
    private static final int MOST_LOST = 3;
    private static final int MOST_SCRAPS = 3;
    private static final int IMAGES = 2;
    private static final int PAD_SIGNS = 40;
    private static final int FIRST_CODE = 33;
    private static final int LAST_CODE = 126;
    private static final int LAST_SEED = 9999;
    private static final int MOST_YEAR_SLIPS = 99;

    /** Added to a number that may be below 0, so that no answer looks like a refusal. */
    private static final int LIFT = 100;

    // A sign is kept as its number among those there are: small letters first, then great ones.
    private static final int LOST = -1;
    private static final int NO_SIGN = -2;

    private final Row pad = new Row(PAD_SIGNS);
    private final Coast now = new Coast();
    private final Coast[] images = new Coast[IMAGES];
    private final Slides slides = new Slides();
    private final Descent tree = new Descent();
    private final Row net = new Row(MOST_CROSSINGS);
    private final Row filled = new Row(MOST_CROSSINGS);
    private final int[] costs = new int[MOST_CROSSINGS + 1];

    public KnotSigns() {
        for (int n = 0; n < IMAGES; n++) {
            images[n] = new Coast();
        }
    }

    // ---- 1 cords, rows

    public int cords(int n) {
        if (n < LEAST_CORDS || n > MOST_CORDS) {
            return OUTSIDE;
        }
        int was = now.cords;
        now.begin(n);
        return was;
    }

    public int say(int sign) {
        if (sign < FIRST_CODE || sign > LAST_CODE) {
            return OUTSIDE;
        }
        return pad.add(sign) ? pad.size : FULL;
    }

    public int wipe() {
        int were = pad.size;
        pad.empty();
        return were;
    }

    public int fault() {
        int lost = 0;
        for (int i = 0; i < pad.size; i++) {
            int sign = signOf(pad.at(i), now.letters());
            if (sign == LOST) {
                lost++;
            }
            if (sign == NO_SIGN || i >= MOST_CROSSINGS || lost > MOST_LOST) {
                return i;
            }
        }
        return NONE;
    }

    public int teach(int man) {
        if (man < 0 || man >= MEN) {
            return UNKNOWN;
        }
        int read = readPad();
        if (read >= 0) {
            now.giveRow(man, net);
            pad.empty();
        }
        return read;
    }

    public int drown(int man) {
        if (now.rowOf(man) == null) {
            return UNKNOWN;
        }
        now.dropRow(man);
        return 1;
    }

    public int row(int man, int i) {
        Row his = now.rowOf(man);
        return his == null ? UNKNOWN : sizeOrCode(his, i);
    }

    // ---- 2 slides

    public int same(int man, int other) {
        Row from = now.rowOf(man);
        Row to = now.rowOf(other);
        if (from == null || to == null) {
            return UNKNOWN;
        }
        return slides.stepsBetween(from, to, now.letters());
    }

    public int shortest(int man, int i) {
        Row his = now.rowOf(man);
        if (his == null) {
            return UNKNOWN;
        }
        slides.gather(his, now.letters());
        slides.readShortest(net);
        return sizeOrCode(net, i);
    }

    public int rows(int man) {
        Row his = now.rowOf(man);
        if (his == null) {
            return UNKNOWN;
        }
        slides.gather(his, now.letters());
        return slides.reached;
    }

    public int twist(int man) {
        Row his = now.rowOf(man);
        return his == null ? UNKNOWN : LIFT + twistOf(his, now.letters());
    }

    public int ends(int man, int cord) {
        Row his = now.rowOf(man);
        if (his == null || !now.hasCord(cord)) {
            return UNKNOWN;
        }
        int place = cord;
        for (int i = 0; i < his.size; i++) {
            place = placeAfter(place, letterOf(his.at(i), now.letters()));
        }
        return place;
    }

    public int about(int man, int cord, int other) {
        Row his = now.rowOf(man);
        if (his == null || !now.hasCord(cord) || !now.hasCord(other) || cord == other) {
            return UNKNOWN;
        }
        int place = cord;
        int second = other;
        int sum = 0;
        for (int i = 0; i < his.size; i++) {
            int letter = letterOf(his.at(i), now.letters());
            if (Math.min(place, second) == letter && Math.max(place, second) == letter + 1) {
                sum += worth(his.at(i), now.letters());
            }
            place = placeAfter(place, letter);
            second = placeAfter(second, letter);
        }
        return LIFT + sum;
    }

    // ---- 3 slips

    public int slips(int man, int other) {
        Row from = now.rowOf(man);
        Row to = now.rowOf(other);
        return from == null || to == null ? UNKNOWN : slipsFrom(from, to);
    }

    public int whose(int what) {
        if (what < 0 || what > 1) {
            return OUTSIDE;
        }
        int read = readPad();
        return read < 0 ? read : manOrSlips(nearest(net, NOBODY), net, what);
    }

    public int forger(int man, int what) {
        Row his = now.rowOf(man);
        if (his == null) {
            return UNKNOWN;
        }
        return what < 0 || what > 1 ? OUTSIDE : manOrSlips(nearest(his, man), his, what);
    }

    public int given(int m, int d, int i) {
        if (m < 1 || m > 2 || d < 1 || d > m) {
            return OUTSIDE;
        }
        int signs = now.signs();
        // Rows that are apart in every place share no first sign: there are as many as signs.
        int many = d == m ? signs : signs * signs;
        if (i == -1) {
            return many;
        }
        if (i < 0 || i >= many) {
            return NONE;
        }
        if (m == 1) {
            return i;
        }
        return d == m ? 10 * i + i : 10 * cut(i, signs) + leftOver(i, signs);
    }

    // ---- 4 worn ones, scraps, descents

    public int worn(int man, int i) {
        Row his = now.rowOf(man);
        if (his == null) {
            return UNKNOWN;
        }
        if (readPad() == NO) {
            return NO;
        }
        slides.gather(his, now.letters());
        int ways = 0;
        int first = 0;
        int fillings = countFillings();
        for (int filling = fillings - 1; filling >= 0; filling--) {
            fillLost(filling);
            if (slides.has(filled)) {
                ways++;
                first = filling;
            }
        }
        if (i == -1) {
            return ways;
        }
        fillLost(first);
        return ways == 0 ? NONE : codeOf(signForLost(i), now.letters());
    }

    public int scrap() {
        int read = readPad();
        if (read == 0) {
            return NO;
        }
        if (read < 0) {
            return read;
        }
        if (!now.addScrap(net)) {
            return FULL;
        }
        pad.empty();
        return now.scrapCount;
    }

    public int burn() {
        int were = now.scrapCount;
        now.scrapCount = 0;
        return were;
    }

    public int who() {
        int bits = 0;
        for (int man = 0; man < MEN; man++) {
            Row his = now.rowOf(man);
            if (his != null && hasAllScraps(his)) {
                bits |= 1 << man;
            }
        }
        return bits;
    }

    public int descent(int man, int of) {
        if (now.rowOf(man) == null || of == man || of != -1 && now.rowOf(of) == null) {
            return UNKNOWN;
        }
        tree.begin(man);
        for (int a = 0; a < MEN; a++) {
            for (int b = 0; b < MEN; b++) {
                Row from = now.rowOf(a);
                Row to = now.rowOf(b);
                if (from != null && to != null) {
                    tree.setApart(a, b, slipsFrom(from, to));
                }
            }
        }
        choose(tree, 0, 0);
        return of == -1 ? tree.fewest : tree.masterOf(of);
    }

    public int year(int seed, int m, int man, int what) {
        Row his = now.rowOf(man);
        if (his == null) {
            return UNKNOWN;
        }
        if (seed < 0 || seed > LAST_SEED || m < 0 || m > MOST_YEAR_SLIPS || what < 0 || what > 1) {
            return OUTSIDE;
        }
        copy(his, net);
        int x = seed;
        for (int slip = 0; slip < m; slip++) {
            x = leftOver(75 * x + 74, 65537);
            net.put(leftOver(x, net.size), leftOver(cut(x, 8), now.signs()));
        }
        return what == 0 ? changed(his, net) : LIFT + twistOf(net, now.letters());
    }

    public int image(int n) {
        Coast image = imageAt(n);
        if (image == null) {
            return OUTSIDE;
        }
        image.become(now);
        image.kept = true;
        return 1;
    }

    public int restore(int n) {
        Coast image = imageAt(n);
        if (image == null) {
            return OUTSIDE;
        }
        if (!image.kept) {
            return STATE;
        }
        now.become(image);
        return 1;
    }

    public int told(int what) {
        switch (what) {
            case 0: return pad.size;
            case 1: return now.cords;
            case 2: return now.menBits();
            case 3: return now.scrapCount;
            case 4: return now.signs();
            default: return OUTSIDE;
        }
    }

    // ---- signs

    private static int signOf(int code, int letters) {
        if (code == '?') {
            return LOST;
        }
        if (code >= 'a' && code < 'a' + letters) {
            return code - 'a';
        }
        return code >= 'A' && code < 'A' + letters ? code - 'A' + letters : NO_SIGN;
    }

    private static int codeOf(int sign, int letters) {
        if (sign < 0) {
            return NONE;
        }
        return sign < letters ? 'a' + sign : 'A' + sign - letters;
    }

    private static int letterOf(int sign, int letters) {
        return sign < letters ? sign : sign - letters;
    }

    private static int worth(int sign, int letters) {
        return sign < letters ? 1 : -1;
    }

    private static int placeAfter(int place, int letter) {
        if (place == letter) {
            return place + 1;
        }
        return place == letter + 1 ? letter : place;
    }

    private static int twistOf(Row knot, int letters) {
        int sum = 0;
        for (int i = 0; i < knot.size; i++) {
            sum += worth(knot.at(i), letters);
        }
        return sum;
    }

    private static int changed(Row was, Row is) {
        int many = 0;
        for (int i = 0; i < was.size; i++) {
            if (was.at(i) != is.at(i)) {
                many++;
            }
        }
        return many;
    }

    private static void copy(Row from, Row to) {
        if (from == null || to == null) {
            return;
        }
        to.empty();
        for (int i = 0; i < from.size; i++) {
            to.add(from.at(i));
        }
    }

    private int sizeOrCode(Row knot, int i) {
        return i == -1 ? knot.size : codeOf(knot.at(i), now.letters());
    }

    // ---- numbers

    private static int cut(int x, int by) {
        return by < 1 ? 0 : x / by;
    }

    private static int leftOver(int x, int by) {
        return by < 1 ? 0 : x % by;
    }

    // ---- the pad

    /** The row on the pad comes into the net: its crossings (some of them may be LOST), NO or STATE. */
    private int readPad() {
        if (fault() != NONE) {
            return NO;
        }
        boolean lost = false;
        net.empty();
        for (int i = 0; i < pad.size; i++) {
            int sign = signOf(pad.at(i), now.letters());
            lost = lost || sign == LOST;
            net.add(sign);
        }
        return lost ? STATE : net.size;
    }

    private int countFillings() {
        int many = 1;
        for (int i = 0; i < net.size; i++) {
            if (net.at(i) == LOST) {
                many *= now.signs();
            }
        }
        return many;
    }

    /** The net with its lost crossings filled; by the filling's number the ways are in order of signs. */
    private void fillLost(int filling) {
        int rest = filling;
        copy(net, filled);
        for (int i = net.size - 1; i >= 0; i--) {
            if (net.at(i) == LOST) {
                filled.put(i, leftOver(rest, now.signs()));
                rest = cut(rest, now.signs());
            }
        }
    }

    private int signForLost(int i) {
        int lost = 0;
        for (int place = 0; place < net.size; place++) {
            if (net.at(place) == LOST) {
                if (lost == i) {
                    return filled.at(place);
                }
                lost++;
            }
        }
        return NO_SIGN;
    }

    // ---- slips

    private int slipsFrom(Row from, Row to) {
        for (int j = 0; j < costs.length; j++) {
            costs[j] = j;
        }
        for (int i = 0; i < from.size; i++) {
            int aslant = i;
            costs[0] = i + 1;
            for (int j = 0; j < to.size && j + 1 < costs.length; j++) {
                int made = aslant + (from.at(i) == to.at(j) ? 0 : 1);
                aslant = costs[j + 1];
                costs[j + 1] = Math.min(made, Math.min(aslant, costs[j]) + 1);
            }
        }
        return to.size < costs.length ? costs[to.size] : NONE;
    }

    private int nearest(Row knot, int but) {
        int found = NOBODY;
        int fewest = 0;
        for (int man = 0; man < MEN; man++) {
            Row his = now.rowOf(man);
            if (his != null && man != but) {
                int many = slipsFrom(his, knot);
                if (found == NOBODY || many < fewest) {
                    found = man;
                    fewest = many;
                }
            }
        }
        return found;
    }

    private int manOrSlips(int man, Row knot, int what) {
        Row his = now.rowOf(man);
        if (his == null) {
            return NONE;
        }
        return what == 0 ? man : slipsFrom(his, knot);
    }

    // ---- scraps

    private boolean hasAllScraps(Row knot) {
        int from = 0;
        for (int i = 0; i < now.scrapCount; i++) {
            Row piece = now.scrapAt(i);
            // The earliest place leaves the most room for the scraps that follow.
            int place = piece == null ? NONE : placeOf(piece, knot, from);
            if (piece == null || place == NONE) {
                return false;
            }
            from = place + piece.size;
        }
        return true;
    }

    private static int placeOf(Row piece, Row knot, int from) {
        for (int place = from; place + piece.size <= knot.size; place++) {
            int alike = 0;
            while (alike < piece.size && piece.at(alike) == knot.at(place + alike)) {
                alike++;
            }
            if (alike == piece.size) {
                return place;
            }
        }
        return NONE;
    }

    // ---- descents

    /** Tries the masters of this man and all behind him, least first; man is the depth, too. */
    private static void choose(Descent tree, int man, int sum) {
        // Only fewer slips win, so that of several descents the first one stays.
        if (sum >= tree.fewest) {
            return;
        }
        if (man >= MEN) {
            tree.keep(sum);
            return;
        }
        if (man == tree.root || !tree.lives(man)) {
            choose(tree, man + 1, sum);
            return;
        }
        for (int master = 0; master < MEN; master++) {
            if (tree.lives(master) && !tree.comesOf(master, man)) {
                tree.setMaster(man, master);
                choose(tree, man + 1, sum + tree.apartOf(man, master));
                tree.setMaster(man, NOBODY);
            }
        }
    }

    // ---- images

    private Coast imageAt(int n) {
        return n >= 0 && n < IMAGES ? images[n] : null;
    }

    /** Some signs one behind another, no more than it was made for. */
    private static final class Row {
        private final int[] signs;
        private int size;

        Row(int most) {
            signs = new int[most < 0 ? 0 : most];
        }

        int at(int i) {
            return i >= 0 && i < size ? signs[i] : NO_SIGN;
        }

        void empty() {
            size = 0;
        }

        boolean add(int sign) {
            if (size >= signs.length) {
                return false;
            }
            signs[size] = sign;
            size++;
            return true;
        }

        void put(int i, int sign) {
            if (i >= 0 && i < size) {
                signs[i] = sign;
            }
        }
    }

    /** All that an image keeps: cords, the men's rows, scraps. */
    private static final class Coast {
        private int cords = MOST_CORDS;
        private final Row[] rows = new Row[MEN];
        private final boolean[] taught = new boolean[MEN];
        private final Row[] scraps = new Row[MOST_SCRAPS];
        private int scrapCount;
        private boolean kept;

        Coast() {
            for (int man = 0; man < MEN; man++) {
                rows[man] = new Row(MOST_CROSSINGS);
            }
            for (int i = 0; i < MOST_SCRAPS; i++) {
                scraps[i] = new Row(MOST_CROSSINGS);
            }
        }

        void begin(int n) {
            cords = n;
            scrapCount = 0;
            for (int man = 0; man < MEN; man++) {
                taught[man] = false;
            }
        }

        int letters() {
            return cords - 1;
        }

        int signs() {
            return 2 * letters();
        }

        boolean hasCord(int cord) {
            return cord >= 0 && cord < cords;
        }

        /** A man's row; null if there is no such man, or he has none. */
        Row rowOf(int man) {
            return man >= 0 && man < MEN && taught[man] ? rows[man] : null;
        }

        void giveRow(int man, Row knot) {
            if (man >= 0 && man < MEN) {
                copy(knot, rows[man]);
                taught[man] = true;
            }
        }

        void dropRow(int man) {
            if (man >= 0 && man < MEN) {
                taught[man] = false;
            }
        }

        int menBits() {
            int bits = 0;
            for (int man = 0; man < MEN; man++) {
                if (taught[man]) {
                    bits |= 1 << man;
                }
            }
            return bits;
        }

        Row scrapAt(int i) {
            return i >= 0 && i < scrapCount && i < MOST_SCRAPS ? scraps[i] : null;
        }

        boolean addScrap(Row knot) {
            if (scrapCount < 0 || scrapCount >= MOST_SCRAPS) {
                return false;
            }
            copy(knot, scraps[scrapCount]);
            scrapCount++;
            return true;
        }

        void become(Coast other) {
            cords = other.cords;
            scrapCount = other.scrapCount;
            for (int man = 0; man < MEN; man++) {
                copy(other.rows[man], rows[man]);
                taught[man] = other.taught[man];
            }
            for (int i = 0; i < MOST_SCRAPS; i++) {
                copy(other.scraps[i], scraps[i]);
            }
        }
    }

    /**
     * All rows that one row becomes by slides, nearest first.
     * A row's number is such that a shorter row's is less, and of rows as long the first one's by signs:
     * so the least number is that of the shortest row.
     */
    private static final class Slides {
        /** Rows of 6 crossings at most of 6 signs. */
        private static final int ALL_ROWS = 55987;
        /** The most rows that are one knot: those of the row without crossings, of 4 cords. */
        private static final int MOST_REACHED = 1245;
        private static final int BITS = 32;

        // A bit a row instead of an element a row: the room that all calls share is small.
        private final int[] marks = new int[ALL_ROWS / BITS + 1];
        private final int[] numbers = new int[MOST_REACHED];
        private final int[] steps = new int[MOST_REACHED];
        private final Row here = new Row(MOST_CROSSINGS);
        private int reached;
        private int letters;

        /** What was found last stands if it began at one of both: each slide can be taken back. */
        int stepsBetween(Row from, Row to, int ofLetters) {
            if (beganAt(to, ofLetters)) {
                return stepsTo(from);
            }
            if (!beganAt(from, ofLetters)) {
                spread(from, ofLetters);
            }
            return stepsTo(to);
        }

        /** What was found last stands if it began at any row that is the same knot. */
        void gather(Row from, int ofLetters) {
            if (letters != ofLetters || !has(from)) {
                spread(from, ofLetters);
            }
        }

        private boolean beganAt(Row knot, int ofLetters) {
            return letters == ofLetters && reached > 0 && numbers[0] == numberOf(knot);
        }

        private void spread(Row from, int ofLetters) {
            forget();
            letters = ofLetters;
            reach(numberOf(from), 0);
            for (int next = 0; next < reached && next < MOST_REACHED; next++) {
                read(numbers[next], here);
                slideAll(steps[next] + 1);
            }
        }

        boolean has(Row knot) {
            int number = numberOf(knot);
            int word = number / BITS;
            return number >= 0 && word < marks.length && (marks[word] & 1 << number % BITS) != 0;
        }

        private int stepsTo(Row knot) {
            int number = numberOf(knot);
            for (int i = 0; i < reached && i < MOST_REACHED; i++) {
                if (numbers[i] == number) {
                    return steps[i];
                }
            }
            return NONE;
        }

        void readShortest(Row into) {
            int first = ALL_ROWS;
            for (int i = 0; i < reached && i < MOST_REACHED; i++) {
                first = Math.min(first, numbers[i]);
            }
            read(first, into);
        }

        private void forget() {
            for (int i = 0; i < reached && i < MOST_REACHED; i++) {
                int word = numbers[i] / BITS;
                if (word >= 0 && word < marks.length) {
                    marks[word] = 0;
                }
            }
            reached = 0;
        }

        private void reach(int number, int step) {
            int word = number / BITS;
            int bit = 1 << number % BITS;
            if (number < 0 || word >= marks.length || reached >= MOST_REACHED || (marks[word] & bit) != 0) {
                return;
            }
            marks[word] |= bit;
            numbers[reached] = number;
            steps[reached] = step;
            reached++;
        }

        private int numberOf(Row knot) {
            int number = 0;
            for (int i = 0; i < knot.size; i++) {
                number = longer(number, knot.at(i));
            }
            return number;
        }

        /** The number of the row that has one sign more at its end; NO_SIGN adds none. */
        private int longer(int number, int sign) {
            return sign < 0 ? number : number * 2 * letters + sign + 1;
        }

        private void read(int number, Row into) {
            into.empty();
            int rest = number;
            for (int i = 0; i < MOST_CROSSINGS && rest > 0; i++) {
                into.add(NO_SIGN);
                rest = cut(rest - 1, 2 * letters);
            }
            rest = number;
            for (int i = into.size - 1; i >= 0; i--) {
                into.put(i, leftOver(rest - 1, 2 * letters));
                rest = cut(rest - 1, 2 * letters);
            }
        }

        /** Reaches the row in which signs from a place on give way to x, y, z (NO_SIGN: to none). */
        private void change(int place, int gone, int x, int y, int z, int step) {
            int number = 0;
            for (int i = 0; i < place; i++) {
                number = longer(number, here.at(i));
            }
            number = longer(longer(longer(number, x), y), z);
            for (int i = place + gone; i < here.size; i++) {
                number = longer(number, here.at(i));
            }
            reach(number, step);
        }

        private int opposite(int sign) {
            return sign < letters ? sign + letters : sign - letters;
        }

        private void slideAll(int step) {
            for (int i = 0; i + 1 < here.size; i++) {
                slideAt(i, step);
            }
            for (int i = 0; i <= here.size && here.size + 2 <= MOST_CROSSINGS; i++) {
                for (int sign = 0; sign < 2 * letters; sign++) {
                    change(i, 0, sign, opposite(sign), NO_SIGN, step);
                }
            }
        }

        /** Two letters side by side can be undone if they are one, swapped if two apart, else begin a turn. */
        private void slideAt(int i, int step) {
            int first = here.at(i);
            int second = here.at(i + 1);
            int apart = Math.abs(letterOf(first, letters) - letterOf(second, letters));
            if (apart == 0 && first != second) {
                change(i, 2, NO_SIGN, NO_SIGN, NO_SIGN, step);
            }
            if (apart == 2) {
                change(i, 2, second, first, NO_SIGN, step);
            }
            boolean alike = worth(first, letters) == worth(second, letters);
            if (apart == 1 && alike && here.at(i + 2) == first) {
                change(i, 3, second, first, second, step);
            }
        }
    }

    /** A search for masters: who lives, how far he is from each other one, the best found. */
    private static final class Descent {
        private static final int MANY = 1000;

        private final int[] apart = new int[MEN * MEN];
        private final boolean[] living = new boolean[MEN];
        private final int[] masters = new int[MEN];
        private final int[] best = new int[MEN];
        private int root;
        private int fewest;

        void begin(int man) {
            root = man;
            fewest = MANY;
            for (int i = 0; i < MEN; i++) {
                living[i] = false;
                masters[i] = NOBODY;
                best[i] = NOBODY;
            }
        }

        void setApart(int man, int from, int slips) {
            if (isMan(man) && isMan(from)) {
                apart[man * MEN + from] = slips;
                living[man] = true;
            }
        }

        int apartOf(int man, int from) {
            return isMan(man) && isMan(from) ? apart[man * MEN + from] : MANY;
        }

        boolean lives(int man) {
            return isMan(man) && living[man];
        }

        void setMaster(int man, int master) {
            if (isMan(man)) {
                masters[man] = master;
            }
        }

        int masterOf(int man) {
            return isMan(man) ? best[man] : NONE;
        }

        /** Whether a man is another one, or has him among his masters' masters. */
        boolean comesOf(int man, int of) {
            int at = man;
            for (int i = 0; i < MEN && isMan(at); i++) {
                if (at == of) {
                    return true;
                }
                at = masters[at];
            }
            return false;
        }

        void keep(int sum) {
            fewest = sum;
            for (int man = 0; man < MEN; man++) {
                best[man] = masters[man];
            }
        }

        private static boolean isMan(int man) {
            return man >= 0 && man < MEN;
        }
    }
}
