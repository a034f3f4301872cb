import java.util.List;

/** "All this is only thought, DAY beyond 9999, too": questions change nothing, not even what told() tells. */
public final class StillTest {
    private static final Due due = new Due();

    private static Streets.Made made;
    private static List<Integer> untouched;

    public static void main(String[] args) {
        of(Streets::some);
        questions(4);
        of(Streets::full);
        questions(11);
        of(Streets::last);
        questions(1);
        of(Streets::empty);
        questionsOfAll();
        beyondLastDay();
        due.end();
    }

    private static void of(Streets.Made other) {
        made = other;
        untouched = Probe.of(other.street());
    }

    private static void still(String what, Streets.Call call) {
        SweptRound x = made.street();
        int first = call.on(x);
        due.is(what + " is no ERROR", x.told(1) + x.told(3) + x.told(4) + x.told(5), 0);
        due.is(what + " answers the same again", call.on(x), first);
        due.same(what + " changes nothing", Probe.of(x), untouched);
    }

    private static void questions(int last) {
        questionsOfAll();
        still("broom", x -> x.broom(30, 0));
        still("broom, the greatest", x -> x.broom(30, 1));
        for (int i = 0; i <= last; i++) {
            int yard = i;
            still("ofYard", x -> x.ofYard(yard, 5) + x.ofYard(yard, 6));
            still("as", x -> x.as(yard, 0));
            still("then", x -> x.then(60, yard));
            still("tow", x -> x.tow(yard, 1, 20));
            still("odds", x -> x.odds(yard, 100, 60, 0));
        }
    }

    private static void questionsOfAll() {
        still("sign", x -> x.sign(0, 99) + x.sign(1, 99));
        still("law", x -> x.law(0, 9, 9, 9) + x.law(1, 1, 4, 9));
        still("worst", x -> x.worst(999, 0));
        still("stay", x -> x.stay());
        still("side", x -> x.side(0));
        still("side, DIRT", x -> x.side(1));
        still("seldom", x -> x.seldom(60));
        still("leastFine", x -> x.leastFine(0) + x.leastFine(1));
        still("paid", x -> x.paid(60));
        still("bell", x -> x.bell(60));
        still("fits", x -> x.fits(1, 0));
        still("judge", x -> x.judge(1));
        still("trace", x -> x.trace(0));
        still("count", x -> x.count(5) + x.count(10));
    }

    /** From DAY 9999 on: 9999 is 3 by 7 and 9 by 30, so LEFT is SIGNED on 10004, RIGHT on 10000. */
    private static void beyondLastDay() {
        SweptRound x = Streets.last();
        due.is("sign, RIGHT", x.sign(1, 1), 1);
        due.is("sign, LEFT", x.sign(0, 5), 1);
        due.is("sign, LEFT, 99 on", x.sign(0, 96) * 10 + x.sign(0, 99), 10);
        due.is("then, 60: LEFT swept on 10053, its CAR going to 1", x.then(60, 0), 5 * 3);
        due.is("then, 60: RIGHT swept on 10056", x.then(60, 1), 2 * 3);
        due.is("worst, with 4 DAYS' leaves", x.worst(53, 0), 1);
        due.is("worst, which", x.worst(53, 1), 1);
        due.is("broom: YARD 1 is swept anyway", x.broom(2, 0) * 1000 + x.broom(2, 1), 6);
        due.is("bell, 6", x.bell(6), 0);
        due.is("paid, 60", x.paid(60), 0);
        due.is("tow, 6", x.tow(0, 1, 6), 0);
        due.is("odds, 6", x.odds(0, 1, 6, 0), 1);
        x.change(0, 2, 99);
        due.is("paid, bold: on 10004 and each 7th then, to 10053", x.paid(60), 8 * 11);
        due.is("bell, bold", x.bell(6), 40 + 18);
        due.is("tow, bold", x.tow(0, 1, 6), 1);
        seldomBeyondLastDay(x);
        x.tell(43 + 53);
        x.tell(46);
        x.tell(52);
        due.is("check", x.check(), 0);
        Due.read(x, 0, "d");
        due.is("d of 9999, 10000, 10001", x.then(3, 0), 40 + 9 + 10 + 11);
    }

    /** 14 and 13 divide 10010, eleven whole DAYS from now; 12 divides 10008. */
    private static void seldomBeyondLastDay(SweptRound x) {
        x.image();
        x.change(0, 1, 0);
        due.is("seldom, 50 and 11 times 3 is below", x.seldom(84), 14);
        due.is("seldom, it isn't", x.seldom(83), 12);
        x.restore();
    }
}
