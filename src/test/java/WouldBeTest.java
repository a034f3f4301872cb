/** Promises 16 to 22 and 25: what would be. */
public final class WouldBeTest {
    private static final Due due = new Due();

    public static void main(String[] args) {
        stay();
        side();
        seldom();
        leastFine();
        tow();
        towPairs();
        broom();
        fits();
        odds();
        due.end();
    }

    private static void stay() {
        SweptRound x = new SweptRound();
        due.is("no YARDS", x.stay(), 0);
        x.yard(0, 0, 10);
        x.yard(0, 0, 11);
        x.yard(0, 0, 12);
        x.yard(0, 0, -1);
        due.is("0 goes to 3; 1 and 2 are bold", x.stay(), 2 | 4);
        x.set(1, 13);
        due.is("one place on the RIGHT, none on the LEFT", x.stay(), 2 | 4);
        x.change(2, 1, 0);
        due.is("each by itself: 0 to 3, 1 to 2", x.stay(), 0);
        Due.read(x, 1, "1");
        due.is("whatever the signs say", x.stay(), 0);
        x.set(1, 0);
        due.is("FINE 0", x.stay(), 3);
    }

    private static void side() {
        SweptRound x = new SweptRound();
        due.is("no YARDS", x.side(0), 0);
        due.is("no YARDS", x.side(1), 0);
        x.yard(0, 50, -1);
        x.yard(0, 50, -1);
        due.is("alike: LEFT", x.side(0), 0);
        due.is("DIRT", x.side(1), 50);
        x.change(1, 0, 51);
        due.is("RIGHT", x.side(0), 1);
        due.is("DIRT", x.side(1), 50);
        x.yard(20, 100, 0);
        due.is("the CAR goes to 1: LEFT", x.side(0), 0);
        due.is("half of it stays", x.side(1), 51 + 50);
        x.change(2, 2, 99);
        due.is("it stays: RIGHT", x.side(0), 1);
        due.is("DIRT", x.side(1), 150);
        due.is("what 2", x.side(2), Due.BEYOND);
        due.is("what -1", x.side(-1), Due.BEYOND);
        due.is("only thought", x.count(5) + x.count(4), 201);
    }

    private static void seldom() {
        SweptRound x = new SweptRound();
        due.is("no YARDS", x.seldom(1), 14);
        x.yard(0, 0, -1);
        due.is("v 1: each DAY", x.seldom(1), 1);
        due.is("v 3: each DAY", x.seldom(3), 1);
        due.is("v 4: each other", x.seldom(4), 2);
        due.is("v 40", x.seldom(40), 14);
        due.is("v 39", x.seldom(39), 13);
        due.is("v 0", x.seldom(0), Due.BEYOND);
        due.is("v 1000", x.seldom(1000), Due.BEYOND);
        due.is("v 999", x.seldom(999), 14);
        x.days(1);
        x.change(0, 0, 30);
        due.is("DAY 1, 30 now: k 2 sweeps DAY 2", x.seldom(34), 2);
        due.is("DAY 1, 30 now: k 3", x.seldom(37), 3);
        due.is("k 1 alone", x.seldom(33), 1);
        x.change(0, 1, 1);
        due.is("no places, so it stays", x.seldom(114), Due.NONE);
        due.is("28 DAYS", x.seldom(115), 14);
    }

    private static void leastFine() {
        SweptRound x = new SweptRound();
        due.is("no CARS", x.leastFine(0), 0);
        x.yard(0, 0, 40);
        x.yard(0, 0, -1);
        due.is("above BOLD", x.leastFine(0), 41);
        due.is("none there", x.leastFine(1), 0);
        x.change(0, 2, 98);
        due.is("99", x.leastFine(0), 99);
        x.change(0, 2, 99);
        due.is("too bold", x.leastFine(0), Due.NONE);
        x.change(0, 2, 0);
        due.is("1", x.leastFine(0), 1);
        x.change(1, 1, 1);
        due.is("no place", x.leastFine(0), Due.NONE);
        due.is("side 2", x.leastFine(2), Due.BEYOND);
        due.is("side -1", x.leastFine(-1), Due.BEYOND);
        due.is("FINE stays", x.count(3), 11);
    }

    private static void tow() {
        SweptRound x = new SweptRound();
        Due.read(x, 1, "s=0");
        x.yard(0, 100, 0);
        x.yard(0, 0, 0);
        x.yard(0, 100, 0);
        x.yard(0, 0, 0);
        due.is("below already", x.tow(0, 101, 0), 0);
        due.is("nobody helps now", x.tow(0, 100, 0), Due.NONE);
        due.is("0 itself, ahead of a place on 1", x.tow(0, 100, 1), 1);
        due.is("2: a place on 1 is for 0 alone", x.tow(2, 100, 1), 4);
        x.change(2, 2, 50);
        due.is("2 is bold", x.tow(2, 100, 1), 4);
        x.change(0, 1, 0);
        due.is("no CAR on 0: not one to tow", x.tow(0, 100, 1), 0);
        due.is("n 20", x.tow(2, 100, 20), 4);
        due.is("n 21", x.tow(2, 100, 21), Due.BEYOND);
        due.is("n -1", x.tow(2, 100, -1), Due.BEYOND);
        due.is("v 0", x.tow(2, 0, 1), Due.BEYOND);
        due.is("v 1000", x.tow(2, 1000, 1), Due.BEYOND);
        due.is("no YARD", x.tow(4, 1, 1), Due.BEYOND);
        due.is("CARS stay", x.count(6), 2 | 4 | 8);
    }

    /** On DAY 0 both sides are SIGNED, then none; a quarter of what is left on YARD 1 blows to YARD 0. */
    private static void towPairs() {
        SweptRound x = new SweptRound();
        Due.read(x, 1, "d=0");
        Due.read(x, 0, "0");
        x.yard(0, 400, 99);
        x.yard(0, 400, 99);
        x.set(0, 5);
        due.is("500 and 75 of 300", x.tow(0, 576, 2), 0);
        due.is("75 of 300 alone", x.tow(0, 575, 2), 1);
        due.is("the same", x.tow(0, 76, 2), 1);
        due.is("none at all", x.tow(0, 75, 2), 3);
        due.is("none at all", x.tow(0, 1, 2), 3);
        due.is("not by two", x.tow(0, 400, 0), Due.NONE);
        x.change(1, 1, 0);
        due.is("one, as the other has no CAR", x.tow(0, 1, 2), 1);
        towForPlaces();
        towOfSeveral();
    }

    /** LEFT is SIGNED alone: a CAR that must go needs a place on the RIGHT, and those ahead of it take one first. */
    private static void towForPlaces() {
        SweptRound x = new SweptRound();
        Due.read(x, 1, "s=0");
        x.yard(0, 100, 0);
        x.yard(0, 0, 0);
        x.yard(0, 100, 0);
        due.is("1 makes a place for 0, but 0 is less", x.tow(0, 100, 1), 1);
        due.is("0 gone makes no place for 2, 1 neither", x.tow(2, 100, 1), 4);
        x.yard(0, 0, -1);
        due.is("0 gone leaves the place to 2", x.tow(2, 100, 1), 1);
        due.is("0 has it", x.tow(0, 100, 1), 0);
    }

    /**
     * RIGHT is SIGNED on DAY 0, LEFT on DAY 1, none then. YARD 2's owner never goes, so 2 must be towed for it
     * to be swept; YARD 3 is swept, if it, 1 (which has the place that 2 leaves), or 0 is towed.
     */
    private static void towOfSeveral() {
        SweptRound x = new SweptRound();
        Due.read(x, 1, "(d=0&s=1)|(d=1&s=0)");
        Due.read(x, 0, "0");
        x.yard(0, 0, 0);
        x.yard(0, 0, 0);
        x.yard(0, 100, 99);
        x.yard(0, 100, 0);
        x.set(0, 1);
        due.is("0 and 2, ahead of 1 and 2, 2 and 3", x.tow(2, 1, 3), 5);
        x.change(0, 1, 0);
        x.change(0, 0, 9);
        due.is("0 is a place already", x.tow(2, 1, 3), 4);
        x.change(1, 2, 50);
        x.change(0, 1, 1);
        due.is("1 never takes the place", x.tow(2, 1, 3), 4);
        x.change(1, 2, 0);
        x.change(0, 2, 99);
        x.change(3, 2, 99);
        due.is("2 and 3", x.tow(2, 1, 3), 12);
        towLeastNumber();
    }

    /**
     * The same signs. YARD 5 is swept, if 5 is towed, or two places are on the LEFT, or one and 1 is towed; YARD 4,
     * if 4 is towed, or two places are on the RIGHT, or one and 2 is towed. So 1 and 2 will do (6), 0 and 4 (17).
     */
    private static void towLeastNumber() {
        SweptRound x = new SweptRound();
        Due.read(x, 1, "(d=0&s=1)|(d=1&s=0)");
        Due.read(x, 0, "0");
        x.yard(0, 0, 50);
        x.yard(0, 0, 0);
        x.yard(0, 0, 0);
        x.yard(0, 0, 50);
        x.yard(0, 100, 0);
        x.yard(0, 100, 0);
        x.set(0, 1);
        due.is("1 and 2 are the least set", x.tow(4, 1, 3), 6);
    }

    private static void broom() {
        SweptRound x = new SweptRound();
        due.is("no YARDS", x.broom(1, 0), Due.NONE);
        due.is("BEYOND ahead of NONE", x.broom(31, 0), Due.BEYOND);
        x.yard(0, 10, -1);
        x.yard(0, 30, -1);
        x.yard(0, 20, -1);
        due.is("the greatest", x.broom(0, 0), 1);
        due.is("then", x.broom(0, 1), 20);
        due.is("behind one", x.broom(1, 1), 23);
        due.is("LEFT is swept behind two", x.broom(2, 0), 1);
        due.is("then", x.broom(2, 1), 6);
        due.is("all swept: the least", x.broom(30, 0), 0);
        due.is("RIGHT, four DAYS behind DAY 25", x.broom(30, 1), 12);
        x.change(1, 0, 20);
        due.is("of like ones the least", x.broom(0, 0), 0);
        due.is("nothing gained", x.broom(0, 1), 20);
        due.is("n 31", x.broom(31, 0), Due.BEYOND);
        due.is("n -1", x.broom(-1, 0), Due.BEYOND);
        due.is("what 2", x.broom(0, 2), Due.BEYOND);
        due.is("what -1", x.broom(0, -1), Due.BEYOND);
        due.is("DIRT stays", x.count(5), 50);
    }

    private static void fits() {
        SweptRound x = new SweptRound();
        Due.fill(x, 0, 8);
        due.is("no YARDS, no numbers", x.fits(0, 0), 100);
        due.is("the least", x.fits(0, 1), 0);
        Due.read(x, 1, "s=0");
        x.yard(0, 40, 30);
        x.yard(0, 40, -1);
        due.is("too few numbers", x.fits(0, 0), Due.NONE);
        Due.fill(x, 0, 16, 0, 43);
        due.is("it went: 31 .. 99", x.fits(0, 0), 69);
        due.is("31", x.fits(0, 1), 31);
        Due.fill(x, 1, 32, 43, 43);
        due.is("it stayed: 0 .. 30", x.fits(1, 0), 31);
        due.is("0", x.fits(1, 1), 0);
        Due.fill(x, 2, 8, 43, 44);
        due.is("never", x.fits(2, 0), 0);
        due.is("none", x.fits(2, 1), Due.NONE);
        Due.fill(x, 2, 8, 43, 43, 0);
        due.is("too many numbers", x.fits(2, 0), Due.NONE);
        due.is("missing", x.fits(3, 0), Due.NONE);
        due.is("BEYOND ahead of NONE", x.fits(3, 2), Due.BEYOND);
        due.is("what -1", x.fits(0, -1), Due.BEYOND);
        due.is("SHEET 4", x.fits(4, 0), Due.BEYOND);
        due.is("SHEET -1", x.fits(-1, 0), Due.BEYOND);
        due.is("FINE stays", x.count(3), 11);
        due.is("DAY stays", x.count(1), 0);
    }

    private static void odds() {
        SweptRound x = new SweptRound();
        Due.read(x, 1, "0");
        Due.read(x, 0, "0");
        x.yard(0, 0, -1);
        x.yard(0, 100, -1);
        int[] clean = {0, 1, 2, 3, 4, 5, 6, 7, 8, 9, 10};
        int[] above = {0, 1, 1, 3, 2, 1, 3, 7, 4, 9, 1};
        int[] below = {1, 10, 5, 10, 5, 2, 5, 10, 5, 10, 1};
        for (int i : clean) {
            int v = i == 0 ? 55 : 101 - 5 * (10 - i);
            due.is(i + " winds, above", x.odds(1, v, 1, 0), above[i]);
            due.is(i + " winds, below", x.odds(1, v, 1, 1), below[i]);
        }
        due.is("LEFT, WIND below 2", x.odds(0, 6, 1, 0), 1);
        due.is("of 5", x.odds(0, 6, 1, 1), 5);
        due.is("now", x.odds(1, 100, 0, 0), 0);
        due.is("now", x.odds(1, 101, 0, 0), 1);
        due.is("WIND 7, 8, 9 leave 2 in the end", x.odds(1, 3, 60, 0), 3);
        due.is("of 10", x.odds(1, 3, 60, 1), 10);
        due.is("none leaves less", x.odds(1, 2, 60, 1), 1);
        due.is("n 61", x.odds(0, 1, 61, 0), Due.BEYOND);
        due.is("n -1", x.odds(0, 1, -1, 0), Due.BEYOND);
        due.is("v 0", x.odds(0, 0, 1, 0), Due.BEYOND);
        due.is("v 1000", x.odds(0, 1000, 1, 0), Due.BEYOND);
        due.is("part 2", x.odds(0, 1, 1, 2), Due.BEYOND);
        due.is("part -1", x.odds(0, 1, 1, -1), Due.BEYOND);
        due.is("no YARD", x.odds(2, 1, 1, 0), Due.BEYOND);
        due.is("WIND stays", x.count(2), 0);
    }
}
