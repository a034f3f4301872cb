/** The document's Terms, 3, and promises 12 to 25: a test for each sentence that names a boundary. */
public final class ThoughtEdgesTest {
    private static final Due due = new Due();

    public static void main(String[] args) {
        behind();
        behindWithNoneOpposite();
        daysAnswerDirtOfAll();
        worstByV();
        worstByDays();
        worstWhich();
        staysOfBothSides();
        staysWithoutSigns();
        sideOfLikeOnes();
        sideWithoutFallsAndWind();
        sideAsInADay();
        seldomK();
        seldomDays();
        seldomFromDay0();
        seldomOfEachYard();
        seldomHasNoPlaces();
        leastFineByBold();
        leastFineByPlaces();
        leastFineOfOneSide();
        towFewest();
        towBelowV();
        towByDays();
        towLeastOfOne();
        towOnlyCars();
        towOfFullStreet();
        broomOfOne();
        broomOfLikeOnes();
        broomOfFullStreet();
        broomHeld();
        whoByFines();
        whoOfNoYards();
        whoByWidths();
        whoOfFullStreet();
        paidByDays();
        paidIsHeld();
        bellAboveAndBelow0();
        oddsInLowestTerms();
        oddsWhateverTheWind();
        due.end();
    }

    private static SweptRound street(String leaves, String signs) {
        SweptRound x = new SweptRound();
        due.is("reading " + leaves, Due.read(x, 0, leaves), 1);
        due.is("reading " + signs, Due.read(x, 1, signs), 1);
        return x;
    }

    private static void yards(SweptRound x, int bold, int... dirt) {
        for (int d : dirt) {
            x.yard(0, d, bold);
        }
    }

    /** "BEHIND n DAYS (0 to 60)". */
    private static void behind() {
        SweptRound x = street("y+1", "0");
        yards(x, -1, 100, 101, 102, 103, 104, 105, 106, 107, 108, 109, 110, 111);
        for (int yard = 0; yard < 12; yard++) {
            due.is("now, YARD " + yard, x.then(0, yard), 100 + yard);
            due.is("behind 1, YARD " + yard, x.then(1, yard), 101 + 2 * yard);
            due.is("behind 59, YARD " + yard, x.then(59, yard), 100 + yard + 59 * (yard + 1));
            due.is("behind 60, YARD " + yard, x.then(60, yard), 100 + yard + 60 * (yard + 1));
        }
        x.set(0, 5);
        due.is("WIND, LEFT", x.then(1, 10), 110 + 11 + 123 / 4);
        due.is("WIND, RIGHT", x.then(1, 11), 123 - 123 / 4);
    }

    /** OPPOSITE "if it is there": nothing comes to the last of an odd number, whatever FALLS, in thought, too. */
    private static void behindWithNoneOpposite() {
        for (int many = 1; many <= 11; many += 2) {
            SweptRound x = street("5", "0");
            for (int i = 0; i < many; i++) {
                x.yard(0, 100, -1);
            }
            int last = many - 1;
            x.set(0, 9);
            due.is("then, YARD " + last, x.then(60, last), 400);
            due.is("odds, YARD " + last, x.odds(last, 401, 60, 0) * 10 + x.odds(last, 401, 60, 1), 11);
            due.is("odds of less, YARD " + last, x.odds(last, 400, 60, 0), 0);
            due.is("tow, YARD " + last, x.tow(last, 201, 20), 0);
            due.is("tow of less, YARD " + last, x.tow(last, 200, 20), Due.NONE);
            x.days(60);
            due.is("in DAYS, YARD " + last, x.ofYard(last, 2), 400);
        }
    }

    /** "n (1 to 60) DAYS: DIRT of all YARDS." */
    private static void daysAnswerDirtOfAll() {
        SweptRound x = street("1", "0");
        due.is("no YARDS", x.days(60), 0);
        due.is("no YARDS, by draws", x.loose(40), 0);
        due.is("DAY", x.count(1), 100);
        yards(x, -1, 1, 2, 3, 4, 5, 6, 7, 8, 9, 10, 11, 12);
        due.is("1 DAY", x.days(1), 78 + 12);
        due.is("60 DAYS", x.days(60), 78 + 12 * 61);
        due.is("1 DAY by draws", x.loose(1), 78 + 12 * 62);
        due.is("40 DAYS by draws", x.loose(40), 78 + 12 * 102);
        due.is("DAY", x.count(1), 202);
    }

    /** "DIRT of any YARD is v or more", v 1 to 999. */
    private static void worstByV() {
        SweptRound x = street("1", "0");
        yards(x, -1, 0, 0);
        due.is("v 1, none yet", x.worst(1, 0), 1);
        due.is("v 1, which", x.worst(1, 1), 0);
        x.change(1, 0, 1);
        due.is("v 1, just so", x.worst(1, 0), 0);
        due.is("v 1, which", x.worst(1, 1), 1);
        x.change(1, 0, 998);
        due.is("v 998", x.worst(998, 0), 0);
        due.is("v 999", x.worst(999, 0), 1);
        due.is("v 999, which", x.worst(999, 1), 1);
        x.change(1, 0, 999);
        due.is("v 999, just so", x.worst(999, 0), 0);
    }

    /** "behind how many DAYS (0 to 60)"; "NONE: not by 60". */
    private static void worstByDays() {
        SweptRound x = street("1", "0");
        yards(x, -1, 40);
        for (int n : new int[] {0, 1, 59, 60}) {
            due.is("behind " + n, x.worst(40 + n, 0), n);
            due.is("behind " + n + ", which", x.worst(40 + n, 1), 0);
        }
        due.is("behind 61", x.worst(101, 0), Due.NONE);
        due.is("behind 61, which", x.worst(101, 1), Due.NONE);
        due.is("no YARDS", new SweptRound().worst(1, 0), Due.NONE);
        due.is("no YARDS, which", new SweptRound().worst(1, 1), Due.NONE);
    }

    /** "first; which (the least)": the first to come there, not the worst in the end. */
    private static void worstWhich() {
        SweptRound x = street("y+1", "0");
        yards(x, -1, 0, 0, 0, 0, 0, 0, 0, 0, 0, 0, 0, 0);
        due.is("12 is the fastest", x.worst(60, 0), 5);
        due.is("which", x.worst(60, 1), 11);
        due.is("10 and 11 come there at once", x.worst(20, 0), 2);
        due.is("the least, 9", x.worst(20, 1), 9);
        x.change(0, 0, 57);
        due.is("0 comes there by 3", x.worst(60, 0), 3);
        due.is("which", x.worst(60, 1), 0);
        Due.read(x, 1, "d=0");
        due.is("swept on DAY 0, so not", x.worst(60, 0), 6);
        due.is("which", x.worst(60, 1), 11);
    }

    /** "STAY: as a set (both sides, each by itself)". */
    private static void staysOfBothSides() {
        SweptRound x = new SweptRound();
        due.is("no YARDS", x.stay(), 0);
        yards(x, 10, 0);
        due.is("alone, no place", x.stay(), 1);
        yards(x, 10, 0, 0, 0, 0, 0, 0, 0, 0, 0, 0, 0);
        due.is("12 CARS, no place", x.stay(), 4095);
        for (int i = 1; i < 12; i += 2) {
            x.change(i, 1, 0);
        }
        due.is("six places on the RIGHT", x.stay(), 0);
        x.change(11, 1, 1);
        due.is("five: the last stays, and 11 has no place", x.stay(), 1 << 10 | 1 << 11);
        x.change(0, 1, 0);
        due.is("five for five, one for 11", x.stay(), 0);
        x.set(1, 10);
        due.is("all too bold", x.stay(), x.count(6));
    }

    /** "were their side alone SIGNED now": whatever the TEXT says. */
    private static void staysWithoutSigns() {
        for (String signs : new String[] {"0", "1", "s", "!s"}) {
            SweptRound x = street("0", signs);
            x.yard(0, 0, 5);
            x.yard(0, 0, -1);
            x.yard(0, 0, -1);
            x.yard(0, 0, 50);
            due.is("3 is bold, signs " + signs, x.stay(), 8);
            x.change(3, 2, 5);
            due.is("nobody is, signs " + signs, x.stay(), 0);
        }
    }

    /** "LEFT of like ones". */
    private static void sideOfLikeOnes() {
        int[][] dirt = {{0, 0, 0, 0}, {50, 50, 0, 50}, {50, 49, 0, 49}, {49, 50, 1, 49}, {999, 999, 0, 999}, {1, 0, 0, 0}};
        for (int[] d : dirt) {
            SweptRound x = street("0", "0");
            yards(x, -1, d[0], d[1]);
            due.is(d[0] + " and " + d[1] + ", which", x.side(0), d[2]);
            due.is(d[0] + " and " + d[1] + ", DIRT", x.side(1), d[3]);
        }
        due.is("no YARDS, which", new SweptRound().side(0), 0);
        due.is("no YARDS, DIRT", new SweptRound().side(1), 0);
        SweptRound one = new SweptRound();
        yards(one, -1, 7);
        due.is("no RIGHT, which", one.side(0), 0);
        due.is("no RIGHT, DIRT", one.side(1), 0);
        one.change(0, 1, 1);
        due.is("it stays: alike, which", one.side(0), 0);
        due.is("it stays, DIRT", one.side(1), 7);
    }

    /** "(no FALLS, no WIND; as in (3))". */
    private static void sideWithoutFallsAndWind() {
        SweptRound x = street("99", "1");
        yards(x, -1, 10, 11, 12, 13, 14, 15, 16, 17, 18, 19, 20, 21);
        x.set(0, 9);
        due.is("RIGHT has more", x.side(0), 1);
        due.is("LEFT is left", x.side(1), 90);
        due.is("nothing is done", x.count(5), 186);
    }

    private static void sideAsInADay() {
        SweptRound x = street("0", "0");
        x.yard(20, 101, 10);
        x.yard(0, 40, 11);
        x.yard(0, 7, -1);
        x.yard(0, 8, -1);
        due.is("LEFT: 0 goes to 3, half of it is left", x.side(1), 51 + 40 + 8);
        due.is("LEFT", x.side(0), 0);
        x.set(1, 10);
        due.is("nobody goes: RIGHT takes 8, LEFT 7", x.side(0), 1);
        due.is("DIRT", x.side(1), 148);
        x.set(1, 12);
        due.is("1 goes to 2, 0 to 3: LEFT takes 57, RIGHT 48", x.side(0), 0);
        x.change(0, 0, 81);
        due.is("LEFT takes 47, RIGHT 48", x.side(0), 1);
        due.is("DIRT", x.side(1), 81 + 7);
        due.is("no PENCE", x.count(4), 0);
    }

    /** "the greatest k (1 to 14)": from DAY 1 on, k leaves DIRT k - 1 at most. */
    private static void seldomK() {
        SweptRound x = street("1", "0");
        due.is("no YARDS", x.seldom(1), 14);
        yards(x, -1, 0);
        x.days(1);
        x.change(0, 0, 0);
        for (int v = 1; v <= 16; v++) {
            due.is("from DAY 1, v " + v, x.seldom(v), Math.min(v, 14));
        }
        due.is("v 999", x.seldom(999), 14);
        x.change(0, 1, 1);
        due.is("it stays", x.seldom(1), Due.NONE);
    }

    /** "below v behind 1, 2, .. 28 DAYS": not behind 0, not behind 29. */
    private static void seldomDays() {
        SweptRound x = street("1", "0");
        yards(x, 0, 0);
        due.is("28 behind 28", x.seldom(28), Due.NONE);
        due.is("29 behind 29", x.seldom(29), 14);
        x.change(0, 0, 100);
        due.is("101 behind 1, 128 behind 28", x.seldom(129), 14);
        due.is("128", x.seldom(128), Due.NONE);
        x.change(0, 1, 0);
        due.is("100 now, but 0 behind 1", x.seldom(14), 14);
        x.change(0, 0, 999);
        due.is("999 now", x.seldom(14), 14);
    }

    /** "both sides being SIGNED just in DAYS that k divides": 0 is such a DAY, and the TEXT isn't asked. */
    private static void seldomFromDay0() {
        for (String signs : new String[] {"0", "1", "s", "!s"}) {
            SweptRound x = street("1", signs);
            yards(x, -1, 500, 500);
            due.is("DAY 0, signs " + signs, x.seldom(14), 14);
            due.is("DAY 0, v 13, signs " + signs, x.seldom(13), 13);
            x.days(1);
            x.change(0, 0, 500);
            x.change(1, 0, 500);
            due.is("DAY 1, each DAY alone", x.seldom(501), 1);
            due.is("DAY 1, each other", x.seldom(502), 2);
            due.is("DAY 1, 14", x.seldom(514), 14);
        }
    }

    /** "DIRT of each YARD is below v": the last of 12, too. */
    private static void seldomOfEachYard() {
        for (int yard = 0; yard < 12; yard++) {
            SweptRound x = street("1", "0");
            yards(x, -1, 0, 0, 0, 0, 0, 0, 0, 0, 0, 0, 0, 0);
            due.is("all alike", x.seldom(5), 5);
            x.become(yard, 40);
            due.is("YARD " + yard + " has twice that", x.seldom(5), 3);
            x.become(yard, 0);
            x.change(yard, 1, 1);
            due.is("YARD " + yard + " has a CAR", x.seldom(28), Due.NONE);
        }
    }

    /** Both sides are SIGNED, so nobody goes, though there are places and the FINE is high. */
    private static void seldomHasNoPlaces() {
        SweptRound x = street("1", "0");
        x.set(1, 99);
        x.yard(0, 0, 0);
        x.yard(0, 0, -1);
        due.is("28 behind 28", x.seldom(28), Due.NONE);
        due.is("29", x.seldom(29), 14);
    }

    /** "the least (0 to 99)". */
    private static void leastFineByBold() {
        due.is("no YARDS, LEFT", new SweptRound().leastFine(0), 0);
        due.is("no YARDS, RIGHT", new SweptRound().leastFine(1), 0);
        int[][] boldAndFine = {{-1, 0}, {0, 1}, {1, 2}, {10, 11}, {97, 98}, {98, 99}, {99, Due.NONE}};
        for (int[] b : boldAndFine) {
            SweptRound x = new SweptRound();
            x.yard(0, 0, b[0]);
            x.yard(0, 0, -1);
            due.is("LEFT, BOLD " + b[0], x.leastFine(0), b[1]);
            due.is("RIGHT, none there", x.leastFine(1), 0);
            SweptRound right = new SweptRound();
            right.yard(0, 0, -1);
            right.yard(0, 0, b[0]);
            due.is("RIGHT, BOLD " + b[0], right.leastFine(1), b[1]);
            due.is("LEFT, none there", right.leastFine(0), 0);
        }
    }

    /** "no CAR would STAY": not with any FINE, if there are too few places. */
    private static void leastFineByPlaces() {
        SweptRound x = new SweptRound();
        for (int i = 0; i < 12; i++) {
            x.yard(0, 0, i % 2 == 0 ? 3 * i : -1);
        }
        due.is("six for six places: above the boldest", x.leastFine(0), 31);
        x.change(1, 1, 1);
        due.is("six for five", x.leastFine(0), Due.NONE);
        x.change(0, 1, 0);
        due.is("five for five", x.leastFine(0), 31);
        due.is("1 has the place of 0", x.leastFine(1), 1);
        x.change(10, 1, 0);
        due.is("the boldest has no CAR", x.leastFine(0), 25);
    }

    /** "of a side that alone were SIGNED now": whatever the TEXT, the FINE and the other side are. */
    private static void leastFineOfOneSide() {
        for (String signs : new String[] {"0", "1", "s", "!s"}) {
            SweptRound x = street("0", signs);
            x.yard(0, 0, 20);
            x.yard(0, 0, 99);
            x.yard(0, 0, -1);
            x.yard(0, 0, -1);
            x.set(1, 99);
            due.is("LEFT, signs " + signs, x.leastFine(0), 21);
            due.is("RIGHT, signs " + signs, x.leastFine(1), Due.NONE);
            x.set(1, 0);
            due.is("LEFT, FINE 0", x.leastFine(0), 21);
            due.is("FINE", x.count(3), 0);
        }
    }

    /** "the fewest CARS (2 at most)". Both sides are SIGNED on DAY 0; a twentieth of 1 blows to 0 each DAY. */
    private static void towFewest() {
        SweptRound x = street("0", "d=0");
        x.set(0, 1);
        yards(x, 99, 200, 200, 200);
        due.is("none", x.tow(0, 220, 2), 0);
        due.is("0 gone: 9 of 190 come on DAY 1", x.tow(0, 10, 2), 1);
        due.is("0 and 1 gone", x.tow(0, 9, 2), 3);
        due.is("0 and 1 gone, v 1", x.tow(0, 1, 2), 3);
        x.change(0, 1, 0);
        due.is("0 has no CAR: 1 gone", x.tow(0, 9, 2), 2);
        x.change(1, 1, 0);
        due.is("1 neither: none", x.tow(0, 9, 2), 0);
        due.is("2 is swept, if it has none", x.tow(2, 1, 1), 4);
        x.become(2, 20);
        due.is("half stays: not by two", x.tow(2, 100, 1), Due.NONE);
        due.is("half is below 101", x.tow(2, 101, 1), 4);
    }

    /** "make DIRT of it below v", v 1 to 999. */
    private static void towBelowV() {
        SweptRound x = street("0", "1");
        yards(x, 99, 998, 999);
        due.is("998 is below 999", x.tow(0, 999, 1), 0);
        due.is("998 isn't below 998", x.tow(0, 998, 1), 1);
        due.is("999 isn't below 999", x.tow(1, 999, 1), 2);
        due.is("0 is below 1", x.tow(1, 1, 1), 2);
        due.is("nothing is behind no DAYS", x.tow(1, 999, 0), Due.NONE);
        x.change(1, 0, 0);
        due.is("0 is below 1 now", x.tow(1, 1, 0), 0);
    }

    /** "behind n DAYS", n 0 to 20. */
    private static void towByDays() {
        SweptRound x = street("0", "e=19");
        yards(x, 99, 100);
        due.is("swept on DAY 19: behind 19 not", x.tow(0, 100, 19), Due.NONE);
        due.is("behind 20", x.tow(0, 100, 20), 1);
        due.is("behind 0", x.tow(0, 101, 0), 0);
        due.is("behind 0", x.tow(0, 100, 0), Due.NONE);
    }

    /** "of several sets the least", of one CAR: 2 is swept, if 0, or 2, is gone, or 1 or 3, which are places then. */
    private static void towLeastOfOne() {
        SweptRound x = street("0", "s=0");
        yards(x, 0, 100, 100, 100, 100);
        x.yard(0, 0, 0);
        x.yard(0, 0, -1);
        due.is("0", x.tow(2, 100, 1), 1);
        x.change(0, 2, 99);
        due.is("0 never goes, so 2 has the place", x.tow(2, 100, 1), 0);
        due.is("0 itself", x.tow(0, 100, 1), 1);
        x.change(0, 2, 0);
        due.is("4 has no DIRT", x.tow(4, 1, 1), 0);
        x.change(4, 0, 100);
        due.is("itself is the fewest", x.tow(4, 100, 1), 16);
        x.change(0, 1, 0);
        x.change(5, 1, 1);
        due.is("1 is the least that is a place", x.tow(2, 100, 1), 2);
        x.change(1, 1, 0);
        due.is("it is", x.tow(2, 100, 1), 0);
    }

    /** A YARD without a CAR is in no set. */
    private static void towOnlyCars() {
        SweptRound x = street("0", "0");
        yards(x, -1, 100, 100, 100);
        due.is("no CARS", x.tow(0, 100, 5), Due.NONE);
        due.is("no CARS, below", x.tow(0, 101, 5), 0);
        yards(x, 5, 100, 100);
        due.is("CARS, but no signs", x.tow(3, 100, 5), Due.NONE);
    }

    private static void towOfFullStreet() {
        SweptRound x = street("0", "d=0");
        yards(x, 99, 100, 100, 100, 100, 100, 100, 100, 100, 100, 100, 100, 100);
        for (int yard = 0; yard < 12; yard++) {
            due.is("itself", x.tow(yard, 100, 20), 1 << yard);
            due.is("now", x.tow(yard, 100, 0), Due.NONE);
        }
        x.set(0, 9);
        due.is("10 and 11", x.tow(10, 1, 2), 3072);
        due.is("0 and 1", x.tow(0, 1, 2), 3);
        due.is("11 alone", x.tow(11, 1, 1), 2048);
    }

    /** One YARD; n 0 to 30. */
    private static void broomOfOne() {
        SweptRound x = street("1", "0");
        yards(x, -1, 999);
        due.is("which", x.broom(0, 0), 0);
        due.is("now", x.broom(0, 1), 0);
        due.is("behind 1", x.broom(1, 1), 1);
        due.is("behind 29", x.broom(29, 1), 29);
        due.is("behind 30", x.broom(30, 1), 30);
        due.is("behind 30, which", x.broom(30, 0), 0);
    }

    /** "of several the least". */
    private static void broomOfLikeOnes() {
        SweptRound x = street("0", "0");
        yards(x, -1, 0, 0, 0);
        due.is("no DIRT, which", x.broom(0, 0), 0);
        due.is("no DIRT", x.broom(0, 1), 0);
        x.change(2, 0, 9);
        due.is("2 alone has some", x.broom(0, 0), 2);
        due.is("none then", x.broom(0, 1), 0);
        x.change(1, 0, 9);
        due.is("1 has as much: nothing helps", x.broom(0, 0), 0);
        due.is("9 then", x.broom(0, 1), 9);
        x.change(1, 0, 10);
        due.is("1 has more", x.broom(0, 0), 1);
        due.is("9 then", x.broom(0, 1), 9);
        x.set(0, 9);
        due.is("4 of 10 blow to 0, so 2 is the worst", x.broom(1, 0), 2);
        due.is("6 then", x.broom(1, 1), 6);
    }

    private static void broomOfFullStreet() {
        for (int worst = 0; worst < 12; worst++) {
            SweptRound x = street("0", "0");
            yards(x, -1, 50, 50, 50, 50, 50, 50, 50, 50, 50, 50, 50, 50);
            x.change(worst, 0, 51);
            for (int n : new int[] {0, 1, 30}) {
                due.is("YARD " + worst + ", behind " + n, x.broom(n, 0), worst);
                due.is("the greatest then, behind " + n, x.broom(n, 1), 50);
            }
        }
    }

    /** All are held at 999. */
    private static void broomHeld() {
        SweptRound x = street("0", "0");
        yards(x, -1, 999, 999, 999);
        due.is("which", x.broom(0, 0), 0);
        due.is("999", x.broom(0, 1), 999);
        Due.read(x, 0, "99");
        due.is("behind 30, which", x.broom(30, 0), 0);
        due.is("behind 30", x.broom(30, 1), 999);
        x.change(0, 0, 0);
        x.change(1, 0, 0);
        due.is("behind 10, 990 then: 2", x.broom(10, 0), 2);
        due.is("behind 10", x.broom(10, 1), 990);
        due.is("behind 11: alike", x.broom(11, 0), 0);
        due.is("behind 11", x.broom(11, 1), 999);
    }

    private static void who(SweptRound x, String what, int many, int least, int... dirt) {
        Due.fill(x, 0, 16, dirt);
        due.is(what + ", how many", x.fits(0, 0), many);
        due.is(what + ", the least", x.fits(0, 1), least);
    }

    /** "FINES (0 to 99) by which that is so: how many; the least." */
    private static void whoByFines() {
        SweptRound x = street("3", "s=0");
        x.yard(0, 40, 0);
        x.yard(0, 40, -1);
        who(x, "BOLD 0 went", 99, 1, 0, 43);
        who(x, "BOLD 0 stayed", 1, 0, 43, 43);
        x.change(0, 2, 98);
        who(x, "BOLD 98 went", 1, 99, 0, 43);
        who(x, "BOLD 98 stayed", 99, 0, 43, 43);
        x.change(0, 2, 99);
        who(x, "BOLD 99 went", 0, Due.NONE, 0, 43);
        who(x, "BOLD 99 stayed", 100, 0, 43, 43);
        who(x, "as it is now", 0, Due.NONE, 40, 40);
        who(x, "one too much on 1", 0, Due.NONE, 43, 44);
        who(x, "one too little on 0", 0, Due.NONE, 42, 43);
        x.yard(0, 40, 50);
        who(x, "a third, which went", 49, 51, 43, 43, 0);
        who(x, "a third, which stayed", 51, 0, 43, 43, 43);
    }

    /** A SHEET without numbers tells of a street without YARDS, whatever the FINE. */
    private static void whoOfNoYards() {
        SweptRound x = new SweptRound();
        for (int bits : new int[] {8, 16, 32}) {
            x.sheet(3, bits, 0);
            due.is("how many", x.fits(3, 0), 100);
            due.is("the least", x.fits(3, 1), 0);
        }
        x.sheet(3, 8, 1);
        due.is("one number", x.fits(3, 0), Due.NONE);
        due.is("one number, the least", x.fits(3, 1), Due.NONE);
    }

    /** 128 has no place in 8 bits, but in 16. */
    private static void whoByWidths() {
        SweptRound x = street("1", "0");
        x.yard(0, 126, -1);
        Due.fill(x, 0, 8, 127);
        due.is("127 in 8 bits", x.fits(0, 0), 100);
        x.change(0, 0, 127);
        Due.fill(x, 0, 8, 128);
        due.is("128 in 8 bits", x.fits(0, 0), 0);
        Due.fill(x, 0, 16, 128);
        due.is("128 in 16 bits", x.fits(0, 0), 100);
        Due.fill(x, 0, 16, 128 + 65536);
        due.is("its lowest 16 bits", x.fits(0, 0), 100);
        Due.fill(x, 0, 32, 128 + 65536);
        due.is("all 32 bits", x.fits(0, 0), 0);
    }

    private static void whoOfFullStreet() {
        SweptRound x = street("0", "s=1");
        for (int i = 0; i < 12; i++) {
            x.yard(0, 10 + i, i % 2 == 0 ? -1 : 8 * i);
        }
        who(x, "1 to 7 went", 16, 57, 10, 0, 12, 0, 14, 0, 16, 0, 18, 19, 20, 21);
        who(x, "all went", 11, 89, 10, 0, 12, 0, 14, 0, 16, 0, 18, 0, 20, 0);
        who(x, "nobody went", 9, 0, 10, 11, 12, 13, 14, 15, 16, 17, 18, 19, 20, 21);
        who(x, "only the last went", 0, Due.NONE, 10, 11, 12, 13, 14, 15, 16, 17, 18, 19, 20, 0);
    }

    /** "PAID by n (0 to 60): PENCE that are more behind n DAYS." */
    private static void paidByDays() {
        SweptRound x = street("0", "1");
        due.is("no YARDS", x.paid(60), 0);
        yards(x, 0, 1, 1, 1, 1, 1, 1, 1, 1, 1, 1, 1, 1);
        x.set(2, 30);
        due.is("none", x.paid(0), 0);
        due.is("1 DAY, 12 CARS", x.paid(1), 132);
        due.is("59 DAYS", x.paid(59), 59 * 132);
        due.is("60 DAYS", x.paid(60), 60 * 132);
        x.set(1, 0);
        due.is("FINE 0", x.paid(60), 0);
        x.set(1, 99);
        due.is("FINE 99", x.paid(60), 71280);
        x.change(11, 1, 0);
        due.is("11 CARS", x.paid(60), 65340);
        Due.read(x, 1, "0");
        due.is("nobody SIGNED", x.paid(60), 0);
    }

    /** PENCE are held at 99999. */
    private static void paidIsHeld() {
        SweptRound x = street("0", "1");
        yards(x, 0, 1);
        int[][] penceAndPaid = {{99987, 11}, {99988, 11}, {99989, 10}, {99998, 1}, {99999, 0}};
        for (int[] p : penceAndPaid) {
            x.set(2, p[0]);
            due.is("1 DAY from " + p[0], x.paid(1), p[1]);
            due.is("60 DAYS from " + p[0], x.paid(60), 99999 - p[0]);
        }
    }

    /** "BELL (may be below 0)", n 0 to 60. */
    private static void bellAboveAndBelow0() {
        SweptRound none = new SweptRound();
        due.is("no YARDS", none.bell(60), 0);
        yards(none, -1, 100, 100);
        due.is("no CARS", none.bell(60), 0);
        SweptRound x = street("1", "1");
        yards(x, 0, 10, 10, 10, 10, 10, 10, 10, 10, 10, 10, 10, 10);
        due.is("none", x.bell(0), 0);
        due.is("1 DAY", x.bell(1), 12 * 11);
        due.is("60 DAYS", x.bell(60), 12 * 70);
        Due.read(x, 0, "!x*99");
        due.is("swept clean, 99 FALL each DAY; but swept, too", x.bell(2), 12 * 10);
        Due.read(x, 1, "d=0");
        due.is("99 FALL where there is no DIRT", x.bell(2), 12 * (10 - 99));
        due.is("the CARS are there", x.count(6), 4095);
        SweptRound waited = street("1", "0");
        waited.yard(30, 0, 0);
        waited.yard(60, 0, 0);
        due.is("1 for a CAR each DAY", waited.bell(60), 120);
    }

    /** "a fraction in lowest terms (0 is 0 by 1)": WIND of 20 come to YARD 0, so v WINDS of 10 leave it below v. */
    private static void oddsInLowestTerms() {
        SweptRound x = street("0", "0");
        yards(x, -1, 0, 20);
        int[] above = {1, 1, 3, 2, 1, 3, 7, 4, 9, 1, 1};
        int[] below = {10, 5, 10, 5, 2, 5, 10, 5, 10, 1, 1};
        for (int v = 1; v <= 11; v++) {
            due.is("below " + v + ", above the line", x.odds(0, v, 1, 0), above[v - 1]);
            due.is("below " + v + ", below the line", x.odds(0, v, 1, 1), below[v - 1]);
        }
        due.is("v 1, now, above", x.odds(0, 1, 0, 0), 1);
        due.is("v 1, now, below", x.odds(0, 1, 0, 1), 1);
        due.is("none is, above", x.odds(1, 11, 1, 0), 0);
        due.is("none is, below", x.odds(1, 11, 1, 1), 1);
        due.is("20 isn't below 20, above", x.odds(1, 20, 0, 0), 0);
        due.is("20 isn't below 20, below", x.odds(1, 20, 0, 1), 1);
        x.change(0, 0, 999);
        due.is("999 isn't below 999", x.odds(0, 999, 60, 0), 0);
        x.change(0, 0, 998);
        due.is("998 is without WIND alone, above", x.odds(0, 999, 60, 0), 1);
        due.is("998 is without WIND alone, below", x.odds(0, 999, 60, 1), 10);
    }

    /** "WIND being 0 to 9, each just as likely": the WIND that is doesn't matter; n 0 to 60. */
    private static void oddsWhateverTheWind() {
        for (int wind = 0; wind <= 9; wind++) {
            SweptRound x = street("1", "0");
            for (int i = 0; i < 12; i++) {
                x.yard(i == 10 ? 60 : 0, 0, -1);
            }
            x.set(0, wind);
            due.is("BLOWN has 1 and WIND each DAY, above", x.odds(10, 5, 1, 0), 2);
            due.is("BLOWN has 1 and WIND each DAY, below", x.odds(10, 5, 1, 1), 5);
            due.is("in 60 DAYS more comes from the RIGHT, above", x.odds(10, 61, 60, 0), 1);
            due.is("in 60 DAYS more comes from the RIGHT, below", x.odds(10, 61, 60, 1), 10);
            due.is("WIND", x.count(2), wind);
        }
    }
}
