import java.lang.management.ManagementFactory;

/** The calls of one run share a small room: behind the constructor no call may make an object or an array. */
public final class RoomTest {
    private static final long MOST_BYTES_NEW = 64 * 1024;
    private static final long MOST_BYTES_CALLS = 1024;

    private static long room() {
        var threads = (com.sun.management.ThreadMXBean) ManagementFactory.getThreadMXBean();
        return threads.getThreadAllocatedBytes(Thread.currentThread().getId());
    }

    /** Each call of the face, the dearest ones most often. */
    private static int callAll(KnotSigns x) {
        int sum = x.cords(4) + x.wipe() + x.teach(0);
        for (int man = 1; man < 6; man++) {
            sum += x.say('a' + man % 3) + x.say('a') + x.say('A') + x.fault() + x.teach(man);
        }
        sum += x.say('b') + x.scrap() + x.say('?') + x.say('?') + x.say('?') + x.image(0) + x.restore(0);
        for (int man = 0; man < 6; man++) {
            sum += x.row(man, 0) + x.same(man, 0) + x.shortest(man, 0) + x.rows(man) + x.twist(man) + x.ends(man, 1);
            sum += x.about(man, 0, 1) + x.slips(man, 0) + x.whose(0) + x.forger(man, 1) + x.given(2, 2, man);
            sum += x.worn(man, 0) + x.who() + x.descent(man, -1) + x.year(man, 99, man, 0) + x.told(man);
        }
        return sum + x.drown(1) + x.burn();
    }

    public static void main(String[] args) {
        room();
        int sum = callAll(new KnotSigns());
        long start = room();
        KnotSigns x = new KnotSigns();
        long made = room();
        sum += callAll(x) + callAll(x) + callAll(x);
        long end = room();
        boolean fits = made - start <= MOST_BYTES_NEW && end - made <= MOST_BYTES_CALLS;
        System.out.println("RoomTest: " + (made - start) + " bytes for an object, " + (end - made)
            + " for its calls (sum " + sum + "): " + (fits ? "fits" : "too many"));
        if (!fits) {
            System.exit(1);
        }
    }
}
