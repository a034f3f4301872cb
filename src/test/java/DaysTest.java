/** Promises 12 to 15 and 23, 24: DAYS, and what lies behind them. */
public final class DaysTest {
    private static final Due due = new Due();

    public static void main(String[] args) {
        oneDay();
        held();
        places();
        bothSigned();
        fines();
        lastDay();
        loose();
        then();
        worst();
        paid();
        bell();
        due.end();
    }

    /** On DAY 0 all sides are SIGNED as the TEXT says: "s=0", LEFT alone; "s", RIGHT alone; "1", both. */
    private static SweptRound street(String signs) {
        SweptRound x = new SweptRound();
        Due.read(x, 1, signs);
        return x;
    }

    private static void dirts(SweptRound x, String when, int... want) {
        for (int yard = 0; yard < want.length; yard++) {
            due.is(when + ", DIRT of " + yard, x.ofYard(yard, 2), want[yard]);
        }
    }

    private static void oneDay() {
        SweptRound x = new SweptRound();
        x.yard(0, 100, 5);
        x.yard(0, 200, -1);
        due.is("DAY 0", x.days(1), 103 + 203);
        dirts(x, "nobody SIGNED", 103, 203);
        due.is("DAY 1", x.days(1), 206);
        dirts(x, "LEFT SIGNED", 0, 206);
        due.is("the CAR is back", x.count(6), 1);
        due.is("DAY 2, 3", x.days(2), 6 + 212);
        x.set(0, 5);
        due.is("DAY 4", x.days(1), 9 + 215 / 4);
        dirts(x, "RIGHT SIGNED, but WIND first", 9 + 53, 0);
        due.is("DAY", x.count(1), 5);
        due.is("no PENCE", x.count(4), 0);
        due.is("n 0", x.days(0), Due.BEYOND);
        due.is("n 61", x.days(61), Due.BEYOND);
        due.is("n -1", x.days(-1), Due.BEYOND);
        x.days(60);
        due.is("60 more", x.count(1), 65);
    }

    private static void held() {
        SweptRound x = street("0");
        x.yard(0, 998, -1);
        x.yard(0, 999, -1);
        x.yard(0, 10, -1);
        x.set(0, 9);
        x.days(1);
        dirts(x, "held", 999, 550, 13);
        x.days(1);
        dirts(x, "cut", 999, 553 - 553 * 9 / 20, 16);
    }

    private static void places() {
        SweptRound x = street("s=0");
        x.yard(0, 40, 10);
        x.yard(0, 40, -1);
        x.yard(0, 40, 0);
        x.yard(0, 40, 0);
        x.days(1);
        dirts(x, "one place, the first goes", 0, 43, 43, 43);
        due.is("the other pays", x.count(4), 11);
        x.change(0, 2, 11);
        x.days(1);
        dirts(x, "as bold as the FINE stays", 6 - 3, 46, 0, 46);
        due.is("and pays", x.count(4), 22);
        x.change(3, 1, 0);
        x.change(0, 2, 0);
        x.days(1);
        dirts(x, "two places", 0, 49, 0, 49);
        due.is("nobody pays", x.count(4), 22);
        x.change(1, 1, 1);
        x.change(3, 1, 1);
        x.days(1);
        dirts(x, "no place", 3, 52, 3, 52);
        due.is("both pay", x.count(4), 44);
        x.change(0, 1, 0);
        x.days(1);
        dirts(x, "without a CAR the brush takes", 0, 55, 6, 55);
    }

    private static void bothSigned() {
        SweptRound x = street("1");
        x.yard(0, 40, 0);
        x.yard(0, 40, -1);
        x.yard(20, 40, -1);
        x.yard(0, 40, 0);
        x.days(1);
        dirts(x, "no places", 43, 0, 41 - 20, 43);
        due.is("two pay", x.count(4), 22);
    }

    private static void fines() {
        SweptRound x = street("1");
        x.yard(0, 0, 0);
        x.yard(0, 0, 0);
        x.set(1, 99);
        x.set(2, 99900);
        x.days(1);
        due.is("PENCE held", x.count(4), 99999);
        x.set(1, 0);
        x.set(2, 7);
        x.days(1);
        due.is("FINE 0", x.count(4), 7);
    }

    private static void lastDay() {
        SweptRound x = new SweptRound();
        for (int i = 0; i < 166; i++) {
            x.days(60);
        }
        due.is("DAY", x.count(1), 9960);
        due.is("40 would be 10000", x.loose(40), Due.STATE);
        due.is("too many", x.days(40), Due.STATE);
        due.is("BEYOND ahead of STATE", x.days(61), Due.BEYOND);
        due.is("BEYOND ahead of STATE", x.loose(41), Due.BEYOND);
        due.is("no draws for STATE", x.count(10), 1);
        x.image();
        due.is("just 9999 by draws", x.loose(39), 0);
        due.is("DAY", x.count(1), 9999);
        x.restore();
        due.is("just 9999", x.days(39), 0);
        due.is("DAY", x.count(1), 9999);
        due.is("none more", x.days(1), Due.STATE);
        due.is("told", x.told(3), 3);
        x.yard(0, 0, -1);
        due.is("thought goes on", x.then(1, 0), 3);
        Due.read(x, 0, "d");
        due.is("d of 9999, 10000, 10001", x.then(3, 0), 9 + 10 + 11);
    }

    private static void loose() {
        SweptRound x = street("0");
        due.is("n 0", x.loose(0), Due.BEYOND);
        due.is("n 41", x.loose(41), Due.BEYOND);
        due.is("no YARDS", x.loose(1), 0);
        int z = (1 * 1103515245 + 12345) * 1103515245 + 12345;
        due.is("two draws all the same", x.count(10), z);
        x.yard(0, 0, 4);
        x.yard(0, 0, -1);
        x.yard(0, 0, -1);
        int cars = 1;
        int dirt = 0;
        for (int i = 0; i < 40; i++) {
            z = z * 1103515245 + 12345;
            int wind = (z >>> 8) % 10;
            z = z * 1103515245 + 12345;
            cars ^= 1 << (z >>> 8) % 3;
            dirt += 9;
            due.is("loose", x.loose(1), dirt);
            due.is("z", x.count(10), z);
            due.is("WIND", x.count(2), wind);
            due.is("CARS", x.count(6), cars);
        }
        due.is("BOLD stays", x.ofYard(0, 4), 4);
        due.is("seed", x.seed(77), z);
        due.is("DAY", x.count(1), 41);
        SweptRound once = street("0");
        once.loose(40);
        due.is("DAY of 40", once.count(1), 40);
    }

    private static void then() {
        SweptRound x = new SweptRound();
        x.yard(0, 100, 50);
        x.yard(0, 200, -1);
        due.is("behind none", x.then(0, 1), 200);
        due.is("behind 2, the bold stays", x.then(2, 0), 106);
        due.is("behind 4", x.then(4, 1), 212);
        due.is("behind 5", x.then(5, 1), 0);
        due.is("only thought", x.count(1) + x.count(5), 300);
        due.is("no PENCE", x.count(4), 0);
        due.is("60", x.then(60, 0), 280);
        due.is("61", x.then(61, 0), Due.BEYOND);
        due.is("-1", x.then(-1, 0), Due.BEYOND);
        due.is("no YARD", x.then(0, 2), Due.BEYOND);
        due.is("YARD -1", x.then(0, -1), Due.BEYOND);
    }

    private static void worst() {
        SweptRound x = street("0");
        x.yard(0, 5, -1);
        x.yard(0, 10, -1);
        x.yard(0, 10, -1);
        due.is("now", x.worst(10, 0), 0);
        due.is("the least", x.worst(10, 1), 1);
        due.is("11", x.worst(11, 0), 1);
        due.is("by 60", x.worst(190, 0), 60);
        due.is("by 60, which", x.worst(190, 1), 1);
        due.is("not by 60", x.worst(191, 0), Due.NONE);
        due.is("not by 60", x.worst(191, 1), Due.NONE);
        due.is("v 0", x.worst(0, 0), Due.BEYOND);
        due.is("v 1000", x.worst(1000, 0), Due.BEYOND);
        due.is("v 999", x.worst(999, 0), Due.NONE);
        due.is("what 2", x.worst(1, 2), Due.BEYOND);
        due.is("what -1", x.worst(1, -1), Due.BEYOND);
        due.is("v 1", x.worst(1, 1), 0);
    }

    private static void paid() {
        SweptRound x = street("d=1");
        x.yard(0, 0, 0);
        x.yard(0, 0, 0);
        due.is("none", x.paid(0), 0);
        due.is("not yet", x.paid(1), 0);
        due.is("once", x.paid(2), 22);
        due.is("nine times", x.paid(60), 9 * 22);
        x.set(2, 99980);
        due.is("held", x.paid(60), 19);
        due.is("only thought", x.count(4), 99980);
        due.is("61", x.paid(61), Due.BEYOND);
        due.is("-1", x.paid(-1), Due.BEYOND);
    }

    private static void bell() {
        SweptRound x = new SweptRound();
        x.yard(0, 100, 50);
        x.yard(30, 10, 50);
        due.is("none", x.bell(0), 0);
        due.is("one DAY: it waits in one", x.bell(1), 1);
        due.is("two: one is swept", x.bell(2), 106 + 2);
        due.is("61", x.bell(61), Due.BEYOND);
        due.is("-1", x.bell(-1), Due.BEYOND);
        due.is("CARS stay", x.count(6), 3);
        SweptRound odd = street("s=0&d=0");
        Due.read(odd, 0, "!x*50");
        odd.yard(0, 1, 50);
        due.is("below 0", odd.bell(2), 1 - 50);
    }
}
