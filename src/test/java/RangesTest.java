import java.util.List;

/**
 * BEYOND: every number that a call takes, just inside and just outside of its range, and far outside. A refused call
 * changes nothing but what told() tells.
 */
public final class RangesTest {
    private static final Due due = new Due();

    private static Streets.Made made = Streets::some;
    private static List<Integer> untouched = Probe.of(Streets.some());

    interface IntCall {
        int on(SweptRound x, int v);
    }

    public static void main(String[] args) {
        yards();
        signsAndTexts();
        days();
        wouldBe();
        voices();
        sheets();
        moves();
        told();
        of(Streets::full);
        yardOfMany(11);
        of(Streets::last);
        yardOfMany(1);
        of(Streets::empty);
        yardOfNone();
        due.end();
    }

    private static void of(Streets.Made other) {
        made = other;
        untouched = Probe.of(other.street());
    }

    private static void range(String what, int least, int most, IntCall call) {
        inside(what, least, call);
        inside(what, most, call);
        outside(what, least - 1, call);
        outside(what, most + 1, call);
        outside(what, Integer.MIN_VALUE, call);
        outside(what, Integer.MAX_VALUE, call);
    }

    private static void inside(String what, int v, IntCall call) {
        SweptRound x = made.street();
        due.is(what + " " + v + " is inside", call.on(x, v) == Due.BEYOND ? 0 : 1, 1);
        due.is(what + " " + v + " is inside, told", x.told(1), 0);
    }

    private static void outside(String what, int v, IntCall call) {
        SweptRound x = made.street();
        due.is(what + " " + v, call.on(x, v), Due.BEYOND);
        for (int k = 1; k <= 5; k++) {
            due.is(what + " " + v + ", ERRORS " + k, x.told(k), k == 1 ? 1 : 0);
        }
        due.same(what + " " + v + " changes nothing", Probe.of(x), untouched);
    }

    private static void yards() {
        range("yard, km", 0, 69, (x, v) -> x.yard(v, 5, 5));
        range("yard, dirt", 0, 999, (x, v) -> x.yard(5, v, 5));
        range("yard, bold", -1, 99, (x, v) -> x.yard(5, 5, v));
        range("ofYard, yard", 0, 4, (x, v) -> x.ofYard(v, 2));
        range("ofYard, what", 0, 6, (x, v) -> x.ofYard(4, v));
        range("change, yard", 0, 4, (x, v) -> x.change(v, 0, 1));
        range("change, what", 0, 2, (x, v) -> x.change(4, v, 1));
        range("change, DIRT", 0, 999, (x, v) -> x.change(4, 0, v));
        range("change, CAR", 0, 1, (x, v) -> x.change(4, 1, v));
        range("change, BOLD", 0, 99, (x, v) -> x.change(4, 2, v));
        range("set, what", 0, 2, (x, v) -> x.set(v, 1));
        range("set, WIND", 0, 9, (x, v) -> x.set(0, v));
        range("set, FINE", 0, 99, (x, v) -> x.set(1, v));
        range("set, PENCE", 0, 99999, (x, v) -> x.set(2, v));
        range("become, yard", 0, 4, (x, v) -> x.become(v, 55));
        range("become, km", 0, 69, (x, v) -> x.become(4, v));
        range("as, yard", 0, 4, (x, v) -> x.as(v, 0));
        range("as, kind", 0, 6, (x, v) -> x.as(4, v));
    }

    private static void signsAndTexts() {
        range("sign, side", 0, 1, (x, v) -> x.sign(v, 1));
        range("sign, days", 0, 99, (x, v) -> x.sign(1, v));
        range("feed, n", 1, 8, (x, v) -> x.feed(0x3131313131313131L, v));
        range("text, use", 0, 1, (x, v) -> x.text(v));
        range("law, use", 0, 1, (x, v) -> x.law(v, 1, 1, 1));
    }

    private static void days() {
        range("days", 1, 60, (x, v) -> x.days(v));
        range("loose", 1, 40, (x, v) -> x.loose(v));
    }

    private static void wouldBe() {
        range("then, n", 0, 60, (x, v) -> x.then(v, 4));
        range("then, yard", 0, 4, (x, v) -> x.then(3, v));
        range("worst, v", 1, 999, (x, v) -> x.worst(v, 0));
        range("worst, what", 0, 1, (x, v) -> x.worst(100, v));
        range("side, what", 0, 1, (x, v) -> x.side(v));
        range("seldom, v", 1, 999, (x, v) -> x.seldom(v));
        range("leastFine, side", 0, 1, (x, v) -> x.leastFine(v));
        range("tow, yard", 0, 4, (x, v) -> x.tow(v, 100, 5));
        range("tow, v", 1, 999, (x, v) -> x.tow(4, v, 5));
        range("tow, n", 0, 20, (x, v) -> x.tow(4, 100, v));
        range("broom, n", 0, 30, (x, v) -> x.broom(v, 0));
        range("broom, what", 0, 1, (x, v) -> x.broom(3, v));
        range("fits, sheet", 0, 3, (x, v) -> x.fits(v, 0));
        range("fits, what", 0, 1, (x, v) -> x.fits(1, v));
        range("paid, n", 0, 60, (x, v) -> x.paid(v));
        range("bell, n", 0, 60, (x, v) -> x.bell(v));
        range("odds, yard", 0, 4, (x, v) -> x.odds(v, 100, 5, 0));
        range("odds, v", 1, 999, (x, v) -> x.odds(4, v, 5, 0));
        range("odds, n", 0, 60, (x, v) -> x.odds(4, 100, v, 0));
        range("odds, part", 0, 1, (x, v) -> x.odds(4, 100, 5, v));
    }

    private static void voices() {
        range("voice, yard", 0, 4, (x, v) -> x.voice(v, 1, 7));
        range("voice, act", 0, 3, (x, v) -> x.voice(4, v, 7));
    }

    private static void sheets() {
        range("sheet, sheet", 0, 3, (x, v) -> x.sheet(v, 8, 1));
        range("sheet, sheet to be missing", 0, 3, (x, v) -> x.sheet(v, 0, 1));
        inside("sheet, n", 0, (x, v) -> x.sheet(1, 16, v));
        inside("sheet, n", 40, (x, v) -> x.sheet(1, 16, v));
        outside("sheet, n", 41, (x, v) -> x.sheet(1, 16, v));
        outside("sheet, n", Integer.MAX_VALUE, (x, v) -> x.sheet(1, 16, v));
        for (int bits : new int[] {0, 8, 16, 32}) {
            inside("sheet, bits", bits, (x, v) -> x.sheet(1, v, 2));
            outside("sheet, bits", bits - 1, (x, v) -> x.sheet(1, v, 2));
            outside("sheet, bits", bits + 1, (x, v) -> x.sheet(1, v, 2));
            outside("sheet, bits", bits + 64, (x, v) -> x.sheet(1, v, 2));
        }
        outside("sheet, bits", 24, (x, v) -> x.sheet(1, v, 2));
        outside("sheet, bits", Integer.MIN_VALUE, (x, v) -> x.sheet(1, v, 2));
        range("put, sheet", 0, 3, (x, v) -> x.put(v, 1, 7));
        range("put, number", 0, 4, (x, v) -> x.put(1, v, 7));
        range("dirts, sheet", 0, 3, (x, v) -> x.dirts(v));
        range("judge, sheet", 0, 3, (x, v) -> x.judge(v));
    }

    /** SHEET 1 has 5 numbers of 16 bits; a part of it comes to another part of it. */
    private static void moves() {
        range("move, sheet", 0, 3, (x, v) -> x.move(v, 0, 1, 0, 1));
        range("move, other", 0, 3, (x, v) -> x.move(1, 0, v, 0, 1));
        range("move, i", 0, 3, (x, v) -> x.move(1, v, 1, 1, 2));
        range("move, j", 0, 3, (x, v) -> x.move(1, 1, 1, v, 2));
        range("move, i of none", 0, 5, (x, v) -> x.move(1, v, 1, 1, 0));
        range("move, j of none", 0, 5, (x, v) -> x.move(1, 1, 1, v, 0));
        range("move, n from 1", 0, 4, (x, v) -> x.move(1, 1, 1, 0, v));
        range("move, n to 2", 0, 3, (x, v) -> x.move(1, 0, 1, 2, v));
        range("move, n of all", 0, 5, (x, v) -> x.move(1, 0, 1, 0, v));
        range("move, i and n", 0, 2, (x, v) -> x.move(1, v, 1, 0, v));
        range("move, j and n", 0, 2, (x, v) -> x.move(1, 0, 1, v, v));
    }

    private static void told() {
        range("count, what", 0, 10, (x, v) -> x.count(v));
        range("told, k", 1, 5, (x, v) -> x.told(v));
    }

    private static void yardOfMany(int last) {
        range("ofYard", 0, last, (x, v) -> x.ofYard(v, 5));
        range("change", 0, last, (x, v) -> x.change(v, 2, 3));
        range("become", 0, last, (x, v) -> x.become(v, 3));
        range("as", 0, last, (x, v) -> x.as(v, 0));
        range("then", 0, last, (x, v) -> x.then(60, v));
        range("tow", 0, last, (x, v) -> x.tow(v, 10, 20));
        range("odds", 0, last, (x, v) -> x.odds(v, 10, 60, 1));
        range("voice", 0, last, (x, v) -> x.voice(v, 3, 3));
    }

    /** There is no YARD 0, too. */
    private static void yardOfNone() {
        for (int yard = -1; yard <= 1; yard++) {
            outside("ofYard", yard, (x, v) -> x.ofYard(v, 0));
            outside("change", yard, (x, v) -> x.change(v, 0, 0));
            outside("become", yard, (x, v) -> x.become(v, 0));
            outside("as", yard, (x, v) -> x.as(v, 0));
            outside("then", yard, (x, v) -> x.then(0, v));
            outside("tow", yard, (x, v) -> x.tow(v, 1, 0));
            outside("odds", yard, (x, v) -> x.odds(v, 1, 0, 0));
            outside("voice", yard, (x, v) -> x.voice(v, 0, 0));
        }
    }
}
