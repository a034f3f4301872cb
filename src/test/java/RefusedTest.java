import java.util.List;

/**
 * FULL, STATE, NONE, KIND: the last call that is taken and the first that is refused; which ERROR is told where two
 * meet; a refused call changes nothing but what told() tells.
 */
public final class RefusedTest {
    private static final Due due = new Due();

    private static Streets.Made made;
    private static List<Integer> untouched;

    public static void main(String[] args) {
        of(Streets::some);
        kinds();
        texts();
        questions();
        traces();
        sheets();
        puts();
        sheetsThatAreMissing();
        moves();
        of(Streets::full);
        full();
        of(Streets::last);
        lastDay();
        of(RefusedTest::withoutImage);
        refused("restore: there is none", Due.NONE, x -> x.restore());
        of(Streets::empty);
        empty();
        untilFull();
        untilLastDay();
        due.end();
    }

    private static SweptRound withoutImage() {
        SweptRound x = new SweptRound();
        x.yard(3, 40, 0);
        x.days(5);
        Due.feed(x, "2*");
        x.tell(3);
        return x;
    }

    private static void of(Streets.Made other) {
        made = other;
        untouched = Probe.of(other.street());
    }

    private static void refused(String what, int error, Streets.Call call) {
        SweptRound x = made.street();
        due.is(what, call.on(x), error);
        for (int k = 1; k <= 5; k++) {
            due.is(what + ", ERRORS " + k, x.told(k), -1000000000 - k == error ? 1 : 0);
        }
        due.same(what + " changes nothing", Probe.of(x), untouched);
    }

    private static void taken(String what, int want, Streets.Call call) {
        SweptRound x = made.street();
        due.is(what, call.on(x), want);
        for (int k = 1; k <= 5; k++) {
            due.is(what + ", ERRORS " + k, x.told(k), 0);
        }
    }

    /** "KIND: it isn't of that KIND, nor of one under it." YARD 3 is DOUBLED, 2 COVERED. */
    private static void kinds() {
        taken("DOUBLED as DOUBLED", 7, x -> x.as(3, 4));
        taken("DOUBLED as SWEPT", 7, x -> x.as(3, 1));
        taken("DOUBLED as YARD", 7, x -> x.as(3, 0));
        refused("DOUBLED as COVERED", Due.KIND, x -> x.as(3, 2));
        refused("DOUBLED as EMPTY", Due.KIND, x -> x.as(3, 5));
        refused("COVERED as EMPTY, which is under it", Due.KIND, x -> x.as(2, 5));
        refused("a KIND that there isn't", Due.BEYOND, x -> x.as(3, 7));
    }

    /** "BEYOND (THE TAPE stays)", though "7+" has a FAULT. */
    private static void texts() {
        refused("text, use 2", Due.BEYOND, x -> x.text(2));
        refused("text, use -1", Due.BEYOND, x -> x.text(-1));
        taken("text, the FAULT", -12, x -> x.text(1));
    }

    private static void questions() {
        refused("worst: not by 60", Due.NONE, x -> x.worst(999, 0));
        refused("worst: not by 60, which", Due.NONE, x -> x.worst(999, 1));
        refused("worst: BEYOND of what ahead of NONE", Due.BEYOND, x -> x.worst(999, 2));
        refused("worst: BEYOND of v ahead of NONE", Due.BEYOND, x -> x.worst(1000, 0));
        refused("seldom: with none", Due.NONE, x -> x.seldom(1));
        refused("seldom: BEYOND ahead of NONE", Due.BEYOND, x -> x.seldom(0));
        refused("leastFine: with none, as the RIGHT has no place", Due.NONE, x -> {
            x.change(1, 1, 1);
            int answer = x.leastFine(0);
            x.change(1, 1, 0);
            return answer;
        });
        refused("tow: not by two", Due.NONE, x -> x.tow(2, 1, 0));
        refused("tow: BEYOND of v ahead of NONE", Due.BEYOND, x -> x.tow(2, 0, 0));
        refused("tow: BEYOND of n ahead of NONE", Due.BEYOND, x -> x.tow(2, 1, -1));
        refused("fits: as many numbers as YARDS, but no FINE", Due.NONE, x -> x.fits(1, 1));
        taken("fits: how many is 0", 0, x -> x.fits(1, 0));
    }

    private static void traces() {
        taken("trace: the first", 50, x -> x.trace(0));
        taken("trace: the last", 10, x -> x.trace(7));
        refused("trace: one more", Due.NONE, x -> x.trace(8));
        refused("trace: below", Due.NONE, x -> x.trace(-1));
        refused("trace: least", Due.NONE, x -> x.trace(Integer.MIN_VALUE));
        refused("trace: greatest", Due.NONE, x -> x.trace(Integer.MAX_VALUE));
    }

    /** "BEYOND. STATE: n is below 0 (ahead of BEYOND of n)." */
    private static void sheets() {
        taken("sheet, n 0", 1, x -> x.sheet(1, 16, 0));
        refused("sheet, n -1", Due.STATE, x -> x.sheet(1, 16, -1));
        refused("sheet, n -1, of one that is missing", Due.STATE, x -> x.sheet(2, 32, -1));
        refused("sheet, the least n", Due.STATE, x -> x.sheet(1, 16, Integer.MIN_VALUE));
        refused("sheet, n 41", Due.BEYOND, x -> x.sheet(1, 16, 41));
        refused("no such SHEET, n -1", Due.BEYOND, x -> x.sheet(4, 16, -1));
        refused("no such SHEET, n -1", Due.BEYOND, x -> x.sheet(-1, 16, -1));
        refused("no such bits, n -1", Due.BEYOND, x -> x.sheet(1, 15, -1));
        refused("no such bits, n 41", Due.BEYOND, x -> x.sheet(1, 64, 41));
        refused("no such SHEET to be missing", Due.BEYOND, x -> x.sheet(4, 0, -1));
        taken("to be missing, n -1", 1, x -> x.sheet(1, 0, -1));
        taken("to be missing, n 41", 1, x -> x.sheet(1, 0, 41));
        taken("to be missing, the least n", 1, x -> x.sheet(1, 0, Integer.MIN_VALUE));
        taken("to be missing, the greatest n", 1, x -> x.sheet(1, 0, Integer.MAX_VALUE));
    }

    /** "BEYOND: no such SHEET. NONE: it is missing. BEYOND: no such number." SHEET 0 has 3 numbers, 2 is missing. */
    private static void puts() {
        refused("put: no such SHEET, no such number", Due.BEYOND, x -> x.put(4, -1, 0));
        refused("put: missing", Due.NONE, x -> x.put(2, 0, 0));
        refused("put: missing, ahead of number -1", Due.NONE, x -> x.put(2, -1, 0));
        refused("put: missing, ahead of number 40", Due.NONE, x -> x.put(2, 40, 0));
        taken("put: the last number", 1, x -> x.put(0, 2, 0));
        refused("put: no such number", Due.BEYOND, x -> x.put(0, 3, 9));
        refused("put: number -1", Due.BEYOND, x -> x.put(0, -1, 9));
        refused("put: of no numbers", Due.BEYOND, x -> {
            x.sheet(2, 8, 0);
            int answer = x.put(2, 0, 9);
            x.sheet(2, 0, 0);
            return answer;
        });
    }

    private static void sheetsThatAreMissing() {
        refused("dirts: missing", Due.NONE, x -> x.dirts(2));
        refused("dirts: no such SHEET", Due.BEYOND, x -> x.dirts(4));
        refused("judge: missing", Due.NONE, x -> x.judge(2));
        refused("judge: no such SHEET", Due.BEYOND, x -> x.judge(4));
        refused("fits: missing", Due.NONE, x -> x.fits(2, 0));
        refused("fits: BEYOND of what ahead of missing", Due.BEYOND, x -> x.fits(2, 2));
        refused("fits: too few numbers", Due.NONE, x -> x.fits(0, 0));
        refused("fits: BEYOND of what ahead of too few numbers", Due.BEYOND, x -> x.fits(0, -1));
        refused("fits: one number too few", Due.NONE, x -> fitsOfSize(x, 4));
        refused("fits: one number too many", Due.NONE, x -> fitsOfSize(x, 6));
        taken("fits: just as many", 0, x -> fitsOfSize(x, 5));
    }

    private static int fitsOfSize(SweptRound x, int size) {
        x.sheet(2, 32, size);
        int answer = x.fits(2, 0);
        x.sheet(2, 0, 0);
        return answer;
    }

    /**
     * "BEYOND: no such SHEET. NONE: one is missing. KIND: they are of unlike bits. BEYOND: n, i, or j is below 0, or
     * they don't stand there."
     */
    private static void moves() {
        refused("move: no such SHEET, the other missing", Due.BEYOND, x -> x.move(4, 0, 2, 0, 1));
        refused("move: missing, no such other", Due.BEYOND, x -> x.move(2, 0, -1, 0, 1));
        refused("move: neither is there", Due.BEYOND, x -> x.move(-1, 0, 4, 0, 1));
        refused("move: no such other, n -1", Due.BEYOND, x -> x.move(1, 0, 4, 0, -1));
        refused("move: missing", Due.NONE, x -> x.move(2, 0, 1, 0, 1));
        refused("move: the other missing", Due.NONE, x -> x.move(1, 0, 2, 0, 1));
        refused("move: both missing", Due.NONE, x -> x.move(2, 0, 2, 0, 0));
        refused("move: missing, ahead of n -1", Due.NONE, x -> x.move(2, 0, 1, 0, -1));
        refused("move: the other missing, ahead of j -1", Due.NONE, x -> x.move(1, 0, 2, -1, 1));
        refused("move: 8 to 16 bits", Due.KIND, x -> x.move(0, 0, 1, 0, 1));
        refused("move: 16 to 8 bits", Due.KIND, x -> x.move(1, 0, 0, 0, 1));
        refused("move: 16 to 32 bits", Due.KIND, x -> x.move(1, 0, 3, 0, 1));
        refused("move: none of unlike bits", Due.KIND, x -> x.move(0, 0, 1, 0, 0));
        refused("move: unlike, ahead of n -1", Due.KIND, x -> x.move(0, 0, 1, 0, -1));
        refused("move: unlike, ahead of i -1", Due.KIND, x -> x.move(0, -1, 1, 0, 1));
        refused("move: unlike, ahead of j too high", Due.KIND, x -> x.move(0, 0, 1, 6, 1));
        refused("move: n -1", Due.BEYOND, x -> x.move(1, 0, 1, 1, -1));
        refused("move: i -1, n 0", Due.BEYOND, x -> x.move(1, -1, 1, 0, 0));
        refused("move: j -1, n 0", Due.BEYOND, x -> x.move(1, 0, 1, -1, 0));
        refused("move: from beyond the last", Due.BEYOND, x -> x.move(1, 4, 1, 0, 2));
        refused("move: to beyond the last", Due.BEYOND, x -> x.move(1, 0, 1, 4, 2));
        refused("move: a sum that goes round", Due.BEYOND, x -> x.move(1, 1, 1, 0, Integer.MAX_VALUE));
        refused("move: a sum that goes round", Due.BEYOND, x -> x.move(1, Integer.MAX_VALUE, 1, 0, 1));
        taken("move: all", 5, x -> x.move(1, 0, 1, 0, 5));
        taken("move: the last", 1, x -> x.move(1, 4, 1, 0, 1));
        taken("move: to the last", 1, x -> x.move(1, 0, 1, 4, 1));
        taken("move: none, at the end", 0, x -> x.move(1, 5, 1, 5, 0));
    }

    /** 12 YARDS, 50 bytes, 20 numbers that wait. */
    private static void full() {
        refused("yard: FULL", Due.FULL, x -> x.yard(0, 0, -1));
        refused("yard: BEYOND of km ahead of FULL", Due.BEYOND, x -> x.yard(70, 0, -1));
        refused("yard: BEYOND of dirt ahead of FULL", Due.BEYOND, x -> x.yard(0, 1000, -1));
        refused("yard: BEYOND of bold ahead of FULL", Due.BEYOND, x -> x.yard(0, 0, -2));
        refused("feed: FULL", Due.FULL, x -> x.feed('1', 1));
        refused("feed: FULL, 8", Due.FULL, x -> x.feed(-1L, 8));
        refused("feed: BEYOND of 9 ahead of FULL", Due.BEYOND, x -> x.feed(0, 9));
        refused("feed: BEYOND of 0", Due.BEYOND, x -> x.feed(0, 0));
        refused("tell: FULL", Due.FULL, x -> x.tell(0));
        refused("tell: FULL, whatever it is", Due.FULL, x -> x.tell(Integer.MIN_VALUE));
        refused("put: number 40", Due.BEYOND, x -> x.put(0, 40, 1));
        taken("put: number 39", 1, x -> x.put(0, 39, 1));
        refused("worst: BEYOND, there are 12 YARDS", Due.BEYOND, x -> x.worst(0, 0));
    }

    /** "STATE: DAY would be above 9999." */
    private static void lastDay() {
        refused("days(1)", Due.STATE, x -> x.days(1));
        refused("days(60)", Due.STATE, x -> x.days(60));
        refused("days(61): BEYOND ahead of STATE", Due.BEYOND, x -> x.days(61));
        refused("days(0): BEYOND", Due.BEYOND, x -> x.days(0));
        refused("days, greatest: a sum that goes round", Due.BEYOND, x -> x.days(Integer.MAX_VALUE));
        refused("loose(1)", Due.STATE, x -> x.loose(1));
        refused("loose(40)", Due.STATE, x -> x.loose(40));
        refused("loose(41): BEYOND ahead of STATE", Due.BEYOND, x -> x.loose(41));
        refused("loose(0): BEYOND", Due.BEYOND, x -> x.loose(0));
    }

    /** "NONE: there are no YARDS", behind BEYOND. */
    private static void empty() {
        refused("broom: no YARDS", Due.NONE, x -> x.broom(0, 0));
        refused("broom: no YARDS, the greatest", Due.NONE, x -> x.broom(30, 1));
        refused("broom: BEYOND of n ahead of NONE", Due.BEYOND, x -> x.broom(31, 0));
        refused("broom: BEYOND of n ahead of NONE", Due.BEYOND, x -> x.broom(-1, 0));
        refused("broom: BEYOND of what ahead of NONE", Due.BEYOND, x -> x.broom(0, 2));
        refused("worst: no YARDS", Due.NONE, x -> x.worst(1, 0));
        refused("worst: BEYOND ahead of NONE", Due.BEYOND, x -> x.worst(0, 0));
        refused("trace: none yet", Due.NONE, x -> x.trace(0));
        refused("restore: none yet", Due.NONE, x -> x.restore());
        refused("fits: missing, though it would have as many", Due.NONE, x -> x.fits(0, 0));
        for (int sheet = 0; sheet < 4; sheet++) {
            int s = sheet;
            refused("missing at first", Due.NONE, x -> x.put(s, 0, 0));
            refused("missing at first", Due.NONE, x -> x.dirts(s));
            refused("missing at first", Due.NONE, x -> x.judge(s));
            refused("missing at first", Due.NONE, x -> x.move(s, 0, s, 0, 0));
        }
    }

    /** The last that has a place, and the first that has none. */
    private static void untilFull() {
        SweptRound x = new SweptRound();
        for (int i = 0; i < 12; i++) {
            due.is("YARD " + i, x.yard(0, 0, 0), i);
        }
        due.is("YARD 12", x.yard(0, 0, 0), Due.FULL);
        for (int i = 1; i <= 20; i++) {
            due.is("number " + i, x.tell(0), i);
        }
        due.is("number 21", x.tell(0), Due.FULL);
        x.check();
        due.is("empty, so there is a place", x.tell(0), 1);
        for (int left = 0; left <= 8; left++) {
            tapeWithPlaces(left);
        }
        due.is("told", x.told(4), 2);
    }

    private static void tapeWithPlaces(int left) {
        for (int n = 1; n <= 8; n++) {
            SweptRound x = new SweptRound();
            int there = 50 - left;
            for (int i = 0; i < there; i += 7) {
                x.feed(0, Math.min(7, there - i));
            }
            due.is(n + " for " + left + " places", x.feed(0, n), n <= left ? there + n : Due.FULL);
            due.is(n + " for " + left + " places, then", x.count(7), n <= left ? there + n : there);
        }
    }

    private static void untilLastDay() {
        SweptRound x = new SweptRound();
        for (int i = 0; i < 166; i++) {
            x.days(60);
        }
        due.is("DAY 9960", x.count(1), 9960);
        x.image();
        due.is("10000 by days", x.days(40), Due.STATE);
        due.is("10000 by loose", x.loose(40), Due.STATE);
        due.is("still", x.count(1), 9960);
        due.is("9999 by days", x.days(39), 0);
        due.is("DAY", x.count(1), 9999);
        x.restore();
        due.is("9999 by loose", x.loose(39), 0);
        due.is("DAY", x.count(1), 9999);
        x.restore();
        x.days(38);
        due.is("9998 and 2", x.days(2), Due.STATE);
        due.is("9998 and 1", x.days(1), 0);
        due.is("DAY", x.count(1), 9999);
        due.is("told", x.told(3), 3);
    }
}
