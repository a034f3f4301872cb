/** The document's Terms, 1: a test for each sentence that names a boundary. */
public final class YardEdgesTest {
    private static final Due due = new Due();

    public static void main(String[] args) {
        newStreet();
        kindsAndM();
        carOrNone();
        fallsOfYard();
        fallsOfSwept();
        fallsOfCovered();
        fallsOfWaited();
        fallsOfDoubled();
        fallsOfEmpty();
        fallsOfBlown();
        namesOfLeaves();
        takes();
        signedByText();
        signedByRests();
        dueSides();
        boldAndFine();
        places();
        placesOfSignedSide();
        boldTakesNoPlace();
        fallsAreHeld();
        windIsCut();
        windIsHeld();
        windOfEachPair();
        noneOpposite();
        fallsThenWindThenBrush();
        penceAreHeld();
        carsAreBack();
        due.end();
    }

    private static SweptRound street(String leaves, String signs) {
        SweptRound x = new SweptRound();
        due.is("reading " + leaves, Due.read(x, 0, leaves), 1);
        due.is("reading " + signs, Due.read(x, 1, signs), 1);
        return x;
    }

    private static void dirts(SweptRound x, String when, int... want) {
        due.is(when + ", YARDS", x.count(0), want.length);
        int sum = 0;
        for (int yard = 0; yard < want.length; yard++) {
            due.is(when + ", DIRT of " + yard, x.ofYard(yard, 2), want[yard]);
            sum += want[yard];
        }
        due.is(when + ", DIRT of all", x.count(5), sum);
    }

    /** "DAY (0 at first), WIND (0 at first), FINE (11 at first), PENCE (0 at first)", and no YARDS. */
    private static void newStreet() {
        int[] first = {0, 0, 0, 11, 0, 0, 0, 0, 0, 0, 1};
        for (int what = 0; what < first.length; what++) {
            due.is("count " + what + " at first", new SweptRound().count(what), first[what]);
        }
        SweptRound x = new SweptRound();
        due.is("set tells WIND at first", x.set(0, 9), 0);
        due.is("set tells FINE at first", x.set(1, 99), 11);
        due.is("set tells PENCE at first", x.set(2, 99999), 0);
        due.is("WIND 9", x.set(0, 0), 9);
        due.is("FINE 99", x.set(1, 0), 99);
        due.is("PENCE 99999", x.set(2, 0), 99999);
        due.is("another object is as at first", new SweptRound().count(3), 11);
    }

    /** "km: 10 times the KIND, and m (0 to 9)". */
    private static void kindsAndM() {
        for (int km = 0; km < 70; km++) {
            SweptRound x = new SweptRound();
            due.is("yard " + km, x.yard(km, 0, -1), 0);
            due.is("KIND of " + km, x.ofYard(0, 0), km / 10);
            due.is("m of " + km, x.ofYard(0, 1), km % 10);
            due.is("become " + km, x.become(0, 69 - km), km / 10);
            due.is("KIND then", x.ofYard(0, 0), (69 - km) / 10);
            due.is("m then", x.ofYard(0, 1), (69 - km) % 10);
        }
    }

    /** "a CAR of an owner so BOLD (-1: none)". */
    private static void carOrNone() {
        int[] bold = {-1, 0, 1, 98, 99};
        SweptRound x = new SweptRound();
        for (int i = 0; i < bold.length; i++) {
            due.is("yard", x.yard(0, i * 249, bold[i]), i);
            due.is("CAR, BOLD " + bold[i], x.ofYard(i, 3), bold[i] < 0 ? 0 : 1);
            due.is("BOLD", x.ofYard(i, 4), Math.max(0, bold[i]));
            due.is("DIRT", x.ofYard(i, 2), i * 249);
        }
        due.is("as a set", x.count(6), 30);
        due.is("BOLD of none changes", x.change(0, 2, 99), 0);
        due.is("and brings no CAR", x.ofYard(0, 3), 0);
        due.is("a CAR where there is one", x.change(1, 1, 1), 1);
        due.is("no CAR where there is none", x.change(0, 1, 0), 0);
        due.is("the same set", x.count(6), 30);
        due.is("the CAR comes to its owner", x.change(0, 1, 1) + x.ofYard(0, 4), 99);
    }

    private static void falls(String leaves, int km, boolean car, int wind, int want) {
        SweptRound x = street(leaves, "0");
        x.yard(km, 500, car ? 50 : -1);
        x.set(0, wind);
        String what = "FALLS of " + km + ", v " + leaves + (car ? ", CAR" : "") + ", WIND " + wind;
        due.is(what, x.ofYard(0, 5), want);
        x.days(1);
        due.is(what + ", in a DAY", x.ofYard(0, 2), 500 + want);
    }

    /** "YARD: v." */
    private static void fallsOfYard() {
        falls("0", 0, false, 0, 0);
        falls("0", 9, true, 9, 0);
        falls("1", 9, true, 9, 1);
        falls("99", 9, true, 9, 99);
        falls("9999", 0, false, 0, 99);
        falls("0-1", 0, false, 0, 0);
    }

    /** "SWEPT: v, less the rest of m by 3. (0 at least, at the end.)" */
    private static void fallsOfSwept() {
        int[] less = {0, 1, 2, 0, 1, 2, 0, 1, 2, 0};
        for (int m = 0; m < 10; m++) {
            falls("9", 10 + m, true, 9, 9 - less[m]);
        }
        falls("0", 10, false, 0, 0);
        falls("0", 11, false, 0, 0);
        falls("1", 11, false, 0, 0);
        falls("1", 12, false, 0, 0);
        falls("2", 12, false, 0, 0);
        falls("3", 12, false, 0, 1);
    }

    /** "COVERED: half (cut) of v." */
    private static void fallsOfCovered() {
        falls("0", 29, true, 9, 0);
        falls("1", 29, true, 9, 0);
        falls("2", 20, false, 0, 1);
        falls("3", 20, false, 0, 1);
        falls("98", 20, false, 0, 49);
        falls("99", 20, false, 0, 49);
    }

    /** "WAITED: v, and 1, if there is a CAR." */
    private static void fallsOfWaited() {
        falls("0", 39, false, 9, 0);
        falls("0", 39, true, 9, 1);
        falls("99", 30, false, 0, 99);
        falls("99", 30, true, 0, 100);
    }

    /** "DOUBLED: as SWEPT, twice that." */
    private static void fallsOfDoubled() {
        falls("0", 40, false, 0, 0);
        falls("0", 42, false, 0, 0);
        falls("1", 42, false, 0, 0);
        falls("2", 42, true, 9, 0);
        falls("3", 42, true, 9, 2);
        falls("99", 43, false, 0, 198);
        falls("99", 44, false, 0, 196);
    }

    /** "EMPTY: as COVERED, and m, in DAYS that 7 divides." */
    private static void fallsOfEmpty() {
        falls("0", 50, false, 0, 0);
        falls("1", 51, true, 9, 1);
        falls("99", 59, false, 0, 58);
        SweptRound x = street("5", "0");
        x.yard(58, 0, -1);
        for (int day = 0; day < 30; day++) {
            due.is("EMPTY on DAY " + day, x.ofYard(0, 5), day % 7 == 0 ? 10 : 2);
            x.days(1);
        }
    }

    /** "BLOWN: as WAITED, and WIND." */
    private static void fallsOfBlown() {
        falls("0", 69, false, 0, 0);
        falls("0", 69, true, 0, 1);
        falls("0", 60, false, 9, 9);
        falls("99", 60, true, 9, 109);
    }

    /** "NAMES y the YARD, d the rest of DAY by 30, x its DIRT". */
    private static void namesOfLeaves() {
        SweptRound x = street("y", "0");
        for (int i = 0; i < 12; i++) {
            x.yard(0, 90 + i, -1);
        }
        for (int i = 0; i < 12; i++) {
            due.is("y of " + i, x.ofYard(i, 5), i);
        }
        Due.read(x, 0, "x-50");
        for (int i = 0; i < 12; i++) {
            due.is("x of " + i, x.ofYard(i, 5), 40 + i);
        }
        Due.read(x, 0, "d");
        for (int day = 0; day < 62; day++) {
            due.is("d of DAY " + day, x.ofYard(11, 5), day % 30);
            x.days(1);
        }
    }

    private static void takes(int kind, int... dirtAndTaken) {
        for (int i = 0; i < dirtAndTaken.length; i += 2) {
            int dirt = dirtAndTaken[i];
            int taken = dirtAndTaken[i + 1];
            SweptRound x = street("0", "1");
            x.yard(kind * 10 + 9, dirt, -1);
            due.is("KIND " + kind + " TAKES of " + dirt, x.ofYard(0, 6), taken);
            due.is("and keeps it until then", x.ofYard(0, 2), dirt);
            x.become(0, kind * 10);
            x.days(1);
            due.is("KIND " + kind + " has then of " + dirt, x.ofYard(0, 2), dirt - taken);
        }
    }

    /**
     * "YARD: all. SWEPT: all, but the rest of x by 2. COVERED: half (cut). WAITED: 50 at most. DOUBLED: as SWEPT, 99
     * at most. EMPTY: as COVERED, and 10, no more than x. (Others as the KIND above.)" On DAY 0 an EMPTY one with m 0
     * has nothing fall, a BLOWN one without WIND neither.
     */
    private static void takes() {
        takes(0, 0, 0, 1, 1, 999, 999);
        takes(1, 0, 0, 1, 0, 2, 2, 3, 2, 998, 998, 999, 998);
        takes(2, 0, 0, 1, 0, 2, 1, 3, 1, 998, 499, 999, 499);
        takes(3, 0, 0, 1, 1, 49, 49, 50, 50, 51, 50, 999, 50);
        takes(4, 0, 0, 1, 0, 2, 2, 97, 96, 98, 98, 99, 98, 100, 99, 101, 99, 999, 99);
        takes(5, 0, 0, 1, 1, 9, 9, 18, 18, 19, 19, 20, 20, 21, 20, 22, 21, 998, 509, 999, 509);
        takes(6, 0, 0, 49, 49, 50, 50, 51, 50, 999, 50);
    }

    /** "A side is SIGNED on a DAY, if the other TEXT gives other than 0"; it is held within 0 to 1. */
    private static void signedByText() {
        String[] texts = {"0", "1", "2", "9999", "0-1", "0-9999", "s", "!s", "s-1"};
        int[][] want = {{0, 0}, {1, 1}, {1, 1}, {1, 1}, {0, 0}, {0, 0}, {0, 1}, {1, 0}, {0, 0}};
        for (int i = 0; i < texts.length; i++) {
            SweptRound x = street("0", texts[i]);
            x.yard(0, 10, -1);
            x.yard(0, 10, -1);
            due.is(texts[i] + ", LEFT", x.sign(0, 0), want[i][0]);
            due.is(texts[i] + ", RIGHT", x.sign(1, 0), want[i][1]);
            x.days(1);
            dirts(x, texts[i], 10 - 10 * want[i][0], 10 - 10 * want[i][1]);
        }
    }

    /** "for the side (0 LEFT, 1 RIGHT), the rest of DAY by 7, the rest of DAY by 30". */
    private static void signedByRests() {
        SweptRound x = street("0", "s*6=d");
        for (int on = 0; on < 100; on++) {
            due.is("LEFT on 0 by 7, DAY " + on, x.sign(0, on), on % 7 == 0 ? 1 : 0);
            due.is("RIGHT on 6 by 7, DAY " + on, x.sign(1, on), on % 7 == 6 ? 1 : 0);
        }
        x.days(5);
        Due.read(x, 1, "s*29=e");
        for (int on = 0; on < 100; on++) {
            due.is("LEFT on 0 by 30, DAY " + (5 + on), x.sign(0, on), (5 + on) % 30 == 0 ? 1 : 0);
            due.is("RIGHT on 29 by 30, DAY " + (5 + on), x.sign(1, on), (5 + on) % 30 == 29 ? 1 : 0);
        }
    }

    /** "those of even number are on the LEFT, of odd on the RIGHT", each of 12. */
    private static void dueSides() {
        for (int side = 0; side < 2; side++) {
            SweptRound x = street("0", side == 0 ? "s=0" : "s=1");
            int[] want = new int[12];
            for (int i = 0; i < 12; i++) {
                x.yard(0, 10 + i, -1);
                want[i] = i % 2 == side ? 0 : 10 + i;
            }
            x.days(1);
            dirts(x, "side " + side, want);
        }
    }

    /** "GOES, if BOLD of it is less than FINE". */
    private static void boldAndFine() {
        int[][] boldAndFine = {{0, 0}, {0, 1}, {1, 1}, {10, 11}, {11, 11}, {12, 11}, {98, 99}, {99, 99}, {99, 98}};
        for (int[] b : boldAndFine) {
            SweptRound x = street("0", "s=0");
            x.yard(0, 10, b[0]);
            x.yard(0, 10, -1);
            x.set(1, b[1]);
            boolean goes = b[0] < b[1];
            due.is("BOLD " + b[0] + ", FINE " + b[1] + ", stay", x.stay(), goes ? 0 : 1);
            x.days(1);
            dirts(x, "BOLD " + b[0] + ", FINE " + b[1], goes ? 0 : 10, 10);
            due.is("PENCE", x.count(4), goes ? 0 : b[1]);
        }
    }

    /** "by numbers, if there is a place left (as many as YARDS without a CAR are on the other side)", 0 to 6. */
    private static void places() {
        for (int side = 0; side < 2; side++) {
            for (int free = 0; free <= 6; free++) {
                SweptRound x = street("0", side == 0 ? "s=0" : "s=1");
                int[] want = new int[12];
                for (int i = 0; i < 12; i++) {
                    boolean other = i % 2 != side;
                    x.yard(0, 10, other && i / 2 >= 6 - free ? -1 : 0);
                    want[i] = other || i / 2 >= free ? 10 : 0;
                }
                x.days(1);
                dirts(x, free + " places for side " + side, want);
                due.is("the others pay", x.count(4), 11 * (6 - free));
            }
        }
    }

    /** "if that isn't SIGNED, too; else none". There is a place on each side. */
    private static void placesOfSignedSide() {
        String[] signs = {"s=0", "s=1", "1"};
        int[][] want = {{0, 10, 0, 10}, {10, 0, 10, 0}, {10, 0, 0, 10}};
        for (int i = 0; i < signs.length; i++) {
            SweptRound x = street("0", signs[i]);
            x.yard(0, 10, 0);
            x.yard(0, 10, -1);
            x.yard(0, 10, -1);
            x.yard(0, 10, 0);
            x.days(1);
            dirts(x, signs[i], want[i]);
            due.is(signs[i] + ", PENCE", x.count(4), i == 2 ? 22 : 0);
        }
        SweptRound one = street("0", "s=0");
        one.yard(0, 10, 0);
        one.days(1);
        dirts(one, "nobody on the other side", 10);
        due.is("it pays", one.count(4), 11);
    }

    /** One that is too BOLD leaves its place to the next; a YARD without a CAR takes none. */
    private static void boldTakesNoPlace() {
        SweptRound x = street("0", "s=0");
        x.yard(0, 10, 11);
        x.yard(0, 10, -1);
        x.yard(0, 10, -1);
        x.yard(0, 10, 5);
        x.yard(0, 10, 10);
        x.yard(0, 10, 5);
        x.yard(0, 10, 10);
        x.days(1);
        dirts(x, "4 has the place", 10, 10, 0, 10, 0, 10, 10);
        due.is("0 and 6 pay", x.count(4), 22);
    }

    /** "(1) each YARD: DIRT is more by what FALLS (held)." */
    private static void fallsAreHeld() {
        SweptRound x = street("5", "0");
        int[] dirt = {0, 993, 994, 995, 998, 999};
        for (int d : dirt) {
            x.yard(0, d, -1);
        }
        x.days(1);
        dirts(x, "5 more", 5, 998, 999, 999, 999, 999);
        x.days(60);
        dirts(x, "60 DAYS more", 305, 999, 999, 999, 999, 999);
        SweptRound all = street("99", "0");
        for (int i = 0; i < 12; i++) {
            all.yard(43, 900 + i, -1);
        }
        due.is("12 times 999", all.days(2), 11988);
    }

    private static void wind(int wind, int right, int blown) {
        SweptRound x = street("0", "0");
        x.yard(0, 0, -1);
        x.yard(0, right, -1);
        x.set(0, wind);
        x.days(1);
        dirts(x, wind + " twentieths of " + right, blown, right - blown);
    }

    /** "WIND twentieths of DIRT (cut) come to that". */
    private static void windIsCut() {
        wind(0, 999, 0);
        wind(1, 0, 0);
        wind(1, 19, 0);
        wind(1, 20, 1);
        wind(1, 39, 1);
        wind(1, 40, 2);
        wind(1, 999, 49);
        wind(9, 2, 0);
        wind(9, 3, 1);
        wind(9, 999, 449);
    }

    /** "come to that (held)": the RIGHT one has less by all that came, though. */
    private static void windIsHeld() {
        int[][] leftRightLeft = {{949, 999, 998}, {950, 999, 999}, {951, 999, 999}, {999, 999, 999}, {999, 0, 999}};
        for (int[] d : leftRightLeft) {
            SweptRound x = street("0", "0");
            x.yard(0, d[0], -1);
            x.yard(0, d[1], -1);
            x.set(0, 1);
            x.days(1);
            dirts(x, "LEFT " + d[0], d[2], d[1] - d[1] / 20);
        }
    }

    /** "of each one on the RIGHT that has one OPPOSITE", in each of six pairs; nothing comes from the LEFT. */
    private static void windOfEachPair() {
        SweptRound x = street("0", "0");
        int[] want = new int[12];
        for (int i = 0; i < 12; i += 2) {
            x.yard(0, 500, -1);
            x.yard(0, 20 * (i + 1), -1);
            want[i] = 500 + i + 1;
            want[i + 1] = 19 * (i + 1);
        }
        x.set(0, 1);
        x.days(1);
        dirts(x, "six pairs", want);
    }

    /** "if it is there". */
    private static void noneOpposite() {
        SweptRound x = street("0", "0");
        x.yard(0, 100, -1);
        x.set(0, 9);
        x.days(1);
        dirts(x, "alone", 100);
        x.yard(0, 100, -1);
        x.yard(0, 100, -1);
        x.days(1);
        dirts(x, "the third has none OPPOSITE", 145, 55, 100);
        SweptRound eleven = street("0", "0");
        int[] want = new int[11];
        for (int i = 0; i < 11; i++) {
            eleven.yard(0, 100, -1);
            want[i] = i == 10 ? 100 : i % 2 == 0 ? 145 : 55;
        }
        eleven.set(0, 9);
        eleven.days(1);
        dirts(eleven, "the eleventh has none OPPOSITE", want);
    }

    /** The order of (1), (2), (3): 97 + 3 blow as 100, and what blew is swept with the rest. */
    private static void fallsThenWindThenBrush() {
        SweptRound x = street("3", "s=0");
        x.yard(20, 0, -1);
        x.yard(0, 97, -1);
        x.set(0, 9);
        x.days(1);
        dirts(x, "LEFT swept: half of 1 + 45", 23, 55);
        Due.read(x, 1, "s=1");
        x.days(1);
        dirts(x, "RIGHT swept behind WIND: 58 has 26 less", 23 + 1 + 26, 0);
    }

    /** "PENCE are more by FINE (held)", up to 99999. */
    private static void penceAreHeld() {
        int[][] penceAndThen = {{0, 11}, {99987, 99998}, {99988, 99999}, {99989, 99999}, {99999, 99999}};
        for (int[] p : penceAndThen) {
            SweptRound x = street("0", "1");
            x.yard(0, 0, 0);
            x.set(2, p[0]);
            x.days(1);
            due.is("PENCE of " + p[0], x.count(4), p[1]);
        }
        SweptRound all = street("0", "1");
        for (int i = 0; i < 12; i++) {
            all.yard(0, 0, 99);
        }
        all.set(1, 99);
        all.days(60);
        due.is("12 pay 99 on 60 DAYS", all.count(4), 71280);
        all.days(24);
        due.is("and on 24 more", all.count(4), 99792);
        all.days(1);
        due.is("held", all.count(4), 99999);
    }

    /** "All CARS are back then. DAY is 1 more." */
    private static void carsAreBack() {
        SweptRound x = street("0", "s=0");
        x.yard(0, 10, 0);
        x.yard(0, 10, -1);
        for (int day = 1; day <= 3; day++) {
            x.days(1);
            due.is("CARS", x.count(6), 1);
            due.is("DAY", x.count(1), day);
        }
        due.is("BOLD", x.ofYard(0, 4), 0);
        due.is("no PENCE", x.count(4), 0);
    }
}
