import java.lang.reflect.InvocationTargetException;
import java.lang.reflect.Method;
import java.util.ArrayList;
import java.util.List;
import java.util.function.IntSupplier;

/**
 * What the Edge..Tests have in common. Each sentence of DOC.md that names a boundary case has a test of its own in
 * one of them: the name of a test begins with the promise (p00: what binds all of them), its remark quotes the
 * sentence; every method whose name so begins is run.
 */
class Edges {
    static final int NONE = -6, UNKNOWN = -1, OUTSIDE = -2, STATE = -3, FULL = -4, NO = -5;
    static final int LOW = Integer.MIN_VALUE, HIGH = Integer.MAX_VALUE;

    /** Numbers that are no man's; 32 and 65536 would be man 0 if a shift or a narrow type wrapped around. */
    static final int[] NO_MEN = {LOW, -65536, -256, -32, -6, -5, -2, -1, 6, 7, 32, 64, 256, 65536, HIGH};

    /** Texts with a fault of each kind: no sign that there is, a seventh, a fourth that is lost; some with a ?, too. */
    static final String[] FAULTY = {"d", "abcd", "aD", "a@", "`", "aaaaaaa", "????", "a?a?a?a", "?d", "abc?ab?"};

    private static String running = "";
    private static int wrong = 0;

    static void fail(String what) {
        wrong++;
        System.out.println(running + ": " + what);
    }

    static void due(String what, int got, int want) {
        if (got != want) {
            fail(what + " answered " + got + ", due is " + want);
        }
    }

    static void say(KnotSigns x, String text) {
        for (int i = 0; i < text.length(); i++) {
            x.say(text.charAt(i));
        }
    }

    static void pad(KnotSigns x, String text) {
        x.wipe();
        say(x, text);
    }

    static void teach(KnotSigns x, int man, String text) {
        pad(x, text);
        due("teach " + man + " " + text, x.teach(man), text.length());
    }

    static void scrap(KnotSigns x, String text) {
        pad(x, text);
        x.scrap();
    }

    /** Some cords, and men from 0 on with these rows; null: he has none. The pad is empty. */
    static KnotSigns coast(int cords, String... rows) {
        KnotSigns x = new KnotSigns();
        x.cords(cords);
        for (int man = 0; man < rows.length; man++) {
            if (rows[man] != null) {
                teach(x, man, rows[man]);
            }
        }
        return x;
    }

    static KnotSigns men(String... rows) {
        return coast(4, rows);
    }

    static String rowOf(KnotSigns x, int man) {
        StringBuilder text = new StringBuilder();
        for (int i = 0; i < x.row(man, -1); i++) {
            text.append((char) x.row(man, i));
        }
        return text.toString();
    }

    static void dueRow(KnotSigns x, int man, String want) {
        if (x.row(man, -1) < 0 || !rowOf(x, man).equals(want)) {
            fail("row of " + man + " is " + x.row(man, -1) + " " + rowOf(x, man) + ", due is " + want);
        }
    }

    /** All that can be seen without a change. */
    static String seen(KnotSigns x) {
        StringBuilder all = new StringBuilder();
        for (int what = 0; what < 5; what++) {
            all.append(x.told(what)).append(' ');
        }
        for (int man = 0; man < 6; man++) {
            all.append(x.row(man, -1)).append(rowOf(x, man)).append(' ');
        }
        all.append(x.fault()).append(' ').append(x.who()).append(' ').append(x.whose(0)).append(' ').append(x.whose(1));
        return all.toString();
    }

    /** Terms: "Calls that are refused answer .." and "They change nothing." */
    static void refused(String what, KnotSigns x, IntSupplier call, int want) {
        String before = seen(x);
        due(what, call.getAsInt(), want);
        due(what + " once more", call.getAsInt(), want);
        String behind = seen(x);
        if (!behind.equals(before)) {
            fail(what + " changed " + before + " to " + behind);
        }
    }

    /** As refused: a call that only asks changes nothing, too. */
    static void asked(String what, KnotSigns x, IntSupplier call, int want) {
        refused(what, x, call, want);
    }

    static String times(char sign, int many) {
        return String.valueOf(sign).repeat(many);
    }

    // ---- all of them

    private static List<Method> testsOf(Class<?> of) {
        List<Method> found = new ArrayList<>();
        for (Method method : of.getDeclaredMethods()) {
            if (method.getName().matches("p\\d\\d[A-Z].*") && method.getParameterCount() == 0) {
                method.setAccessible(true);
                found.add(method);
            }
        }
        found.sort((a, b) -> a.getName().compareTo(b.getName()));
        return found;
    }

    private static boolean holds(Method test) throws IllegalAccessException {
        int before = wrong;
        running = test.getName();
        try {
            test.invoke(null);
        } catch (InvocationTargetException thrown) {
            fail("threw " + thrown.getCause());
        }
        return wrong == before;
    }

    /** Runs the tests of a class; a class without any is wrong, too. */
    static void run(Class<?> of) throws IllegalAccessException {
        int failed = 0;
        List<Method> tests = testsOf(of);
        for (Method test : tests) {
            failed += holds(test) ? 0 : 1;
        }
        System.out.println(of.getName() + ": " + tests.size() + " sentences, " + failed + " of them broken");
        if (failed != 0 || tests.isEmpty()) {
            System.exit(1);
        }
    }
}
