import com.sun.management.ThreadMXBean;
import java.lang.management.ManagementFactory;

/** What 512 calls of one object take of the room that all calls of a run live in. */
public final class RoomTest {
    private static final int CALLS = 512;
    /** Two rows of ints for each TEXT, far below the room's 7.3 million elements. */
    private static final long MOST_OF_TEXTS = 300_000;
    private static final long MOST_OF_OTHERS = 4_000;

    private static final Due due = new Due();
    private static final ThreadMXBean memory = (ThreadMXBean) ManagementFactory.getThreadMXBean();
    private static boolean judging;

    public static void main(String[] args) {
        // The first round loads classes, which takes memory of the machine's own.
        for (int round = 0; round < 2; round++) {
            judging = round > 0;
            objects();
            questions();
            texts();
        }
        due.end();
    }

    private static long taken() {
        return memory.getThreadAllocatedBytes(Thread.currentThread().getId());
    }

    private static void atMost(String what, long bytes, long most) {
        String told = what + " took " + bytes + " bytes; at most " + most;
        due.is(told, !judging || bytes <= most ? 1 : 0, 1);
    }

    private static SweptRound fullStreet() {
        SweptRound x = new SweptRound();
        Due.read(x, 0, "(x%7+d)*(y>5)+(x%11>(y+2))+(d%3=1)*9");
        Due.read(x, 1, "(d+s*3)%7=1|(e=15)");
        for (int i = 0; i < 12; i++) {
            x.yard(i * 5 + 3, 80 * i, i * 7);
        }
        Due.fill(x, 0, 16, 1, 2, 3, 4, 5, 6, 7, 8, 9, 10, 11, 12);
        return x;
    }

    private static void objects() {
        long before = taken();
        new SweptRound();
        atMost("a new object", taken() - before, 5_000);
    }

    /** Each kind has a street of its own, so that no object has more than 512 calls. */
    private static void questions() {
        for (int kind = 0; kind < 16; kind++) {
            SweptRound x = fullStreet();
            long before = taken();
            for (int i = 0; i < CALLS / 16; i++) {
                ask(x, kind);
            }
            atMost("question " + kind, taken() - before, MOST_OF_OTHERS);
        }
    }

    private static int ask(SweptRound x, int kind) {
        switch (kind) {
            case 0: return x.then(60, 3);
            case 1: return x.worst(999, 1);
            case 2: return x.stay() + x.side(1);
            case 3: return x.seldom(1);
            case 4: return x.leastFine(0);
            case 5: return x.tow(11, 1, 20);
            case 6: return x.broom(30, 1);
            case 7: return x.fits(0, 0);
            case 8: return x.paid(60) + x.bell(60);
            case 9: return x.odds(5, 500, 60, 0);
            case 10: return x.days(60) + x.loose(40);
            case 11: return x.voice(9, 3, 7) + x.trace(0);
            case 12: return x.sheet(1, 8, 40) + x.put(1, 0, 1) + x.move(1, 0, 1, 1, 39);
            case 13: return x.dirts(0) + x.judge(0);
            case 14: return x.image() + x.restore();
            default: return x.tell(5) + x.check() + x.count(5) + x.told(0);
        }
    }

    /** The most that 512 calls can have read: 64 of 7 words and a text() each. */
    private static void texts() {
        SweptRound x = new SweptRound();
        String longest = "1+1+1+1+1+1+1+1+1+1+1+1+1+1+1+1+1+1+1+1+1+1+1+1+11";
        long before = taken();
        for (int i = 0; i < CALLS / 8; i++) {
            due.is("text", Due.read(x, i % 2, longest), 1);
        }
        atMost("texts", taken() - before, MOST_OF_TEXTS);
    }
}
