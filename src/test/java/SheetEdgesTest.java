/** The document's Terms, 4, and promises 29 to 39: a test for each sentence that names a boundary. */
public final class SheetEdgesTest {
    private static final Due due = new Due();

    public static void main(String[] args) {
        missingAtFirst();
        numbersOfSheet();
        all0Anew();
        missingAgain();
        lowestBits();
        movedAsTheyWere();
        movedBetween();
        movedWhole();
        dirtsUpToYards();
        dirtsUpToNumbers();
        dirtsUpToWrong();
        judgeEachCar();
        judgeLacksOrTooMany();
        judgeOtherNumbers();
        imageCounts();
        imageOfEachPart();
        imageOfEmptyStreet();
        imageKeepsWhatWaits();
        imageKeepsTape();
        imageStays();
        imageIsNoSheet();
        checkNone();
        checkEachPlace();
        checkOfFullWait();
        countEach();
        toldEach();
        calls512();
        due.end();
    }

    private static void yards(SweptRound x, int bold, int many) {
        for (int i = 0; i < many; i++) {
            x.yard(0, 0, bold);
        }
    }

    /** Reads a number by way of SHEET 3 and DIRT of YARD 0; -1: it is not 0 to 999. */
    private static int number(SweptRound x, int bits, int sheet, int i) {
        x.sheet(3, bits, 1);
        if (x.move(sheet, i, 3, 0, 1) != 1) {
            return -2;
        }
        return x.dirts(3) == 1 ? x.ofYard(0, 2) : -1;
    }

    private static void numbers(SweptRound x, String what, int bits, int sheet, int... want) {
        for (int i = 0; i < want.length; i++) {
            due.is(what + ", number " + i, number(x, bits, sheet, i), want[i]);
        }
    }

    /** "SHEETS 0 .. 3 are .. missing (as at first)". */
    private static void missingAtFirst() {
        for (int sheet = 0; sheet < 4; sheet++) {
            SweptRound x = new SweptRound();
            due.is("put", x.put(sheet, 0, 0), Due.NONE);
            due.is("dirts", x.dirts(sheet), Due.NONE);
            due.is("judge", x.judge(sheet), Due.NONE);
            due.is("fits", x.fits(sheet, 0), Due.NONE);
            due.is("move", x.move(sheet, 0, sheet, 0, 0), Due.NONE);
            due.is("to be missing, still", x.sheet(sheet, 0, 0), 1);
            due.is("put", x.put(sheet, 0, 0), Due.NONE);
        }
    }

    /** "at most 40 numbers". */
    private static void numbersOfSheet() {
        for (int bits : new int[] {8, 16, 32}) {
            for (int n : new int[] {0, 1, 39, 40}) {
                SweptRound x = new SweptRound();
                due.is("sheet of " + n, x.sheet(2, bits, n), 1);
                for (int i = 0; i <= 40; i++) {
                    due.is("number " + i + " of " + n, x.put(2, i, 1), i < n ? 1 : Due.BEYOND);
                }
                due.is("move all " + n, x.move(2, 0, 2, 0, n), n);
                due.is("move one more than " + n, x.move(2, 0, 2, 0, n + 1), Due.BEYOND);
            }
        }
    }

    /** "A SHEET has n numbers, all 0": anew, though it had others. */
    private static void all0Anew() {
        SweptRound x = new SweptRound();
        yards(x, -1, 1);
        for (int bits : new int[] {8, 16, 32}) {
            for (int n : new int[] {5, 40, 3}) {
                due.is("sheet", x.sheet(0, bits, n), 1);
                numbers(x, "anew", bits, 0, 0, 0, 0);
                due.is("the last", number(x, bits, 0, n - 1), 0);
                x.put(0, 0, 7);
                x.put(0, 2, -7);
                x.put(0, n - 1, 9);
            }
        }
        due.is("another SHEET", x.sheet(1, 8, 2), 1);
        due.is("this one stays", number(x, 32, 0, 2), 9);
    }

    /** "0: it is missing, n doesn't matter". */
    private static void missingAgain() {
        int[] any = {0, 1, -1, 40, 41, Integer.MIN_VALUE, Integer.MAX_VALUE};
        for (int n : any) {
            SweptRound x = new SweptRound();
            x.sheet(1, 8, 3);
            x.sheet(2, 8, 3);
            due.is("missing, n " + n, x.sheet(1, 0, n), 1);
            due.is("put", x.put(1, 0, 1), Due.NONE);
            due.is("the next is there", x.put(2, 0, 1), 1);
            due.is("no ERROR but one", x.told(1) * 100 + x.told(3) * 10 + x.told(2), 1);
            x.sheet(1, 8, 2);
            due.is("as many as then told", x.put(1, 2, 1), Due.BEYOND);
        }
    }

    private static void kept(int bits, int v, int want) {
        SweptRound x = new SweptRound();
        yards(x, -1, 1);
        x.change(0, 0, 500);
        x.sheet(0, bits, 1);
        due.is("put", x.put(0, 0, v), 1);
        due.is(v + " in " + bits + " bits", number(x, bits, 0, 0), want);
    }

    /** "becomes v (its lowest bits)", and the highest of them is the sign. */
    private static void lowestBits() {
        int[][] eight = {{0, 0}, {127, 127}, {128, -1}, {200, -1}, {255, -1}, {256, 0}, {383, 127}, {-1, -1},
            {-128, -1}, {-129, 127}, {-256, 0}, {Integer.MAX_VALUE, -1}, {Integer.MIN_VALUE, 0}};
        for (int[] e : eight) {
            kept(8, e[0], e[1]);
        }
        int[][] sixteen = {{0, 0}, {128, 128}, {999, 999}, {1000, -1}, {32767, -1}, {32768, -1}, {65535, -1},
            {65536, 0}, {66535, 999}, {-1, -1}, {-65535, 1}, {-64537, 999}, {Integer.MIN_VALUE, 0}};
        for (int[] s : sixteen) {
            kept(16, s[0], s[1]);
        }
        int[][] all = {{0, 0}, {256, 256}, {999, 999}, {1000, -1}, {65536, -1}, {-1, -1}, {Integer.MIN_VALUE, -1},
            {Integer.MAX_VALUE, -1}};
        for (int[] a : all) {
            kept(32, a[0], a[1]);
        }
    }

    /** "(or the same), .. as they all were": parts that lie over one another, up and down. */
    private static void movedAsTheyWere() {
        for (int i = 0; i <= 6; i++) {
            for (int j = 0; j <= 6; j++) {
                for (int n = 0; n <= 6 - Math.max(i, j); n++) {
                    moved(i, j, n);
                }
            }
        }
    }

    private static void moved(int i, int j, int n) {
        SweptRound x = new SweptRound();
        yards(x, -1, 1);
        int[] want = {1, 2, 3, 4, 5, 6};
        Due.fill(x, 0, 16, want);
        int[] were = want.clone();
        for (int k = 0; k < n; k++) {
            want[j + k] = were[i + k];
        }
        String what = "move " + n + " from " + i + " to " + j;
        due.is(what, x.move(0, i, 0, j, n), n);
        numbers(x, what, 16, 0, want);
    }

    /** To another one: the first stays, and the others of the other. */
    private static void movedBetween() {
        for (int bits : new int[] {8, 16, 32}) {
            SweptRound x = new SweptRound();
            yards(x, -1, 1);
            Due.fill(x, 0, bits, 1, 2, 3, 4);
            Due.fill(x, 1, bits, 11, 12, 13);
            due.is("two", x.move(0, 2, 1, 0, 2), 2);
            numbers(x, "to", bits, 1, 3, 4, 13);
            numbers(x, "from", bits, 0, 1, 2, 3, 4);
            due.is("back", x.move(1, 2, 0, 3, 1), 1);
            numbers(x, "to", bits, 0, 1, 2, 3, 13);
            due.is("one too many", x.move(0, 0, 1, 0, 4), Due.BEYOND);
            due.is("none", x.move(0, 4, 1, 3, 0), 0);
            due.is("none from beyond", x.move(0, 5, 1, 3, 0), Due.BEYOND);
            due.is("none to beyond", x.move(0, 4, 1, 4, 0), Due.BEYOND);
            numbers(x, "as it was", bits, 1, 3, 4, 13);
        }
        SweptRound x = new SweptRound();
        Due.fill(x, 0, 8);
        due.is("none of none", x.move(0, 0, 0, 0, 0), 0);
        due.is("one of none", x.move(0, 0, 0, 0, 1), Due.BEYOND);
    }

    private static void movedWhole() {
        SweptRound x = new SweptRound();
        yards(x, -1, 1);
        x.sheet(0, 16, 40);
        x.sheet(1, 16, 40);
        for (int i = 0; i < 40; i++) {
            x.put(0, i, 100 + i);
        }
        due.is("40", x.move(0, 0, 1, 0, 40), 40);
        due.is("39 up", x.move(0, 0, 0, 1, 39), 39);
        for (int i = 0; i < 40; i++) {
            due.is("moved " + i, number(x, 16, 1, i), 100 + i);
            due.is("up " + i, number(x, 16, 0, i), 100 + Math.max(0, i - 1));
        }
    }

    /** "up to the first .. for which there is no YARD". */
    private static void dirtsUpToYards() {
        for (int many = 0; many <= 12; many++) {
            SweptRound x = new SweptRound();
            yards(x, -1, many);
            x.sheet(0, 16, 40);
            for (int i = 0; i < 40; i++) {
                x.put(0, i, 900 + i);
            }
            due.is(many + " YARDS", x.dirts(0), many);
            for (int i = 0; i < many; i++) {
                due.is("DIRT of " + i, x.ofYard(i, 2), 900 + i);
            }
            due.is("no ERROR", x.told(1) + x.told(2), 0);
        }
    }

    private static void dirtsUpToNumbers() {
        for (int size = 0; size <= 13; size++) {
            SweptRound x = new SweptRound();
            yards(x, -1, 12);
            x.sheet(0, 8, size);
            for (int i = 0; i < size; i++) {
                x.put(0, i, 1 + i);
            }
            int many = Math.min(size, 12);
            due.is(size + " numbers", x.dirts(0), many);
            for (int i = 0; i < 12; i++) {
                due.is("DIRT of " + i, x.ofYard(i, 2), i < many ? 1 + i : 0);
            }
        }
    }

    /** "up to the first that is not 0 to 999 (no ERROR then)": those ahead have come, those behind not. */
    private static void dirtsUpToWrong() {
        for (int wrong : new int[] {-1, 1000, Integer.MIN_VALUE, Integer.MAX_VALUE}) {
            for (int at = 0; at < 4; at++) {
                SweptRound x = new SweptRound();
                yards(x, -1, 4);
                Due.fill(x, 0, 32, 999, 0, 999, 5);
                x.put(0, at, wrong);
                for (int i = 0; i < 4; i++) {
                    x.change(i, 0, 77);
                }
                due.is(wrong + " at " + at, x.dirts(0), at);
                int[] right = {999, 0, 999, 5};
                for (int i = 0; i < 4; i++) {
                    due.is("DIRT of " + i, x.ofYard(i, 2), i < at ? right[i] : 77);
                }
                due.is("no ERROR", x.told(1) + x.told(2) + x.told(3), 0);
            }
        }
    }

    /** "the first that isn't so", of 12. */
    private static void judgeEachCar() {
        for (int cars : new int[] {0, 4095, 0x555, 0xaaa, 0x801}) {
            SweptRound x = new SweptRound();
            x.sheet(0, 8, 12);
            for (int i = 0; i < 12; i++) {
                x.yard(0, 0, (cars >> i & 1) - 1);
                x.put(0, i, cars >> i & 1);
            }
            due.is("all are", x.judge(0), -1);
            for (int i = 11; i >= 0; i--) {
                x.change(i, 1, 1 - x.ofYard(i, 3));
                due.is(i + " isn't, nor those behind it", x.judge(0), i);
            }
        }
    }

    /** "(one that lacks, or is too many, too); -1: all are". */
    private static void judgeLacksOrTooMany() {
        for (int many = 0; many <= 12; many += 3) {
            for (int size = 0; size <= 14; size++) {
                SweptRound x = new SweptRound();
                yards(x, 5, many);
                x.sheet(0, 32, size);
                for (int i = 0; i < size; i++) {
                    x.put(0, i, i < many ? 1 : 0);
                }
                int want = size == many ? -1 : Math.min(size, many);
                due.is(size + " numbers for " + many + " YARDS", x.judge(0), want);
            }
        }
    }

    /** A number other than 0 and 1 isn't so, with a CAR or without. */
    private static void judgeOtherNumbers() {
        for (int v : new int[] {2, -1, 128, 255, 256, 257, Integer.MIN_VALUE}) {
            SweptRound x = new SweptRound();
            yards(x, -1, 1);
            x.sheet(0, 32, 1);
            x.put(0, 0, v);
            due.is(v + " for none", x.judge(0), 0);
            x.change(0, 1, 1);
            due.is(v + " for a CAR", x.judge(0), 0);
        }
        SweptRound x = new SweptRound();
        yards(x, 0, 1);
        Due.fill(x, 0, 8, 257);
        due.is("1 is what 257 has in 8 bits", x.judge(0), -1);
    }

    /** "how often that was done": a restore() doesn't take it back. */
    private static void imageCounts() {
        SweptRound x = new SweptRound();
        due.is("none", x.restore(), Due.NONE);
        for (int i = 1; i <= 5; i++) {
            due.is("image", x.image(), i);
            due.is("restore", x.restore(), i - 1);
            x.days(1);
        }
        due.is("the latest IMAGE", x.restore(), 4);
        due.is("told NONE once", x.told(2), 1);
    }

    private static void changeAll(SweptRound x) {
        for (int i = 0; i < 12; i++) {
            x.become(i, 69 - x.ofYard(i, 0) * 10 - x.ofYard(i, 1));
            x.change(i, 0, 999 - x.ofYard(i, 2));
            x.change(i, 1, 1 - x.ofYard(i, 3));
            x.change(i, 2, 99 - x.ofYard(i, 4));
        }
        x.loose(3);
        x.set(0, 9 - x.count(2));
        x.set(1, 99 - x.count(3));
        x.set(2, 777);
        x.text(0);
        Due.read(x, 0, "1");
        Due.read(x, 1, "1");
        x.check();
        Due.feed(x, "x");
        x.tell(1);
    }

    /** "All .. is kept as an IMAGE": each part of a full street comes back. */
    private static void imageOfEachPart() {
        SweptRound x = Streets.full();
        x.seed(31);
        int[] counts = new int[11];
        for (int what = 0; what <= 10; what++) {
            counts[what] = x.count(what);
        }
        int[][] yards = new int[12][5];
        for (int i = 0; i < 12; i++) {
            for (int what = 0; what < 5; what++) {
                yards[i][what] = x.ofYard(i, what);
            }
        }
        int law = x.law(0, 3, 3, 3);
        due.is("image", x.image(), 2);
        changeAll(x);
        due.is("DAY", x.restore(), counts[1]);
        for (int what = 0; what <= 10; what++) {
            due.is("count " + what, x.count(what), counts[what]);
        }
        for (int i = 0; i < 12; i++) {
            for (int what = 0; what < 5; what++) {
                due.is("of YARD " + i + ", " + what, x.ofYard(i, what), yards[i][what]);
            }
        }
        due.is("LEAVES", x.law(0, 3, 3, 3), law);
        due.is("SIGN, without a TEXT", x.law(1, 1, 4, 0) * 10 + x.law(1, 1, 5, 0), 10);
    }

    /** An IMAGE without YARDS: those that came are gone again, and come anew as others. */
    private static void imageOfEmptyStreet() {
        SweptRound x = new SweptRound();
        x.image();
        yards(x, 50, 12);
        x.days(60);
        due.is("DAY", x.restore(), 0);
        due.is("YARDS", x.count(0), 0);
        due.is("CARS", x.count(6), 0);
        due.is("DIRT", x.count(5), 0);
        due.is("YARD 0", x.ofYard(0, 0), Due.BEYOND);
        due.is("anew", x.yard(25, 4, -1), 0);
        int[] want = {2, 5, 4, 0, 0};
        for (int what = 0; what < 5; what++) {
            due.is("of YARD 0", x.ofYard(0, what), want[what]);
        }
    }

    /** The numbers that wait are kept, and not only how many. */
    private static void imageKeepsWhatWaits() {
        SweptRound x = new SweptRound();
        yards(x, -1, 1);
        x.tell(3);
        x.tell(0);
        x.tell(3);
        x.image();
        due.is("so it is", x.check(), 0);
        x.tell(9);
        x.tell(9);
        x.tell(9);
        x.tell(9);
        x.restore();
        due.is("three wait", x.count(8), 3);
        due.is("so it is again", x.check(), 0);
        x.tell(9);
        x.restore();
        due.is("and again", x.check(), 0);
    }

    /** So are the bytes of THE TAPE. */
    private static void imageKeepsTape() {
        SweptRound x = new SweptRound();
        Due.feed(x, "(9-2)*");
        x.image();
        due.is("FAULT", x.text(0), -16);
        Due.feed(x, "12345678");
        x.restore();
        due.is("six bytes", x.count(7), 6);
        Due.feed(x, "2");
        due.is("they are", x.text(0), 1);
        due.is("(9-2)*2", x.law(0, 0, 0, 0), 14);
        x.restore();
        due.is("without a TEXT", x.law(0, 0, 0, 0), 3);
        Due.feed(x, "3");
        x.text(0);
        due.is("(9-2)*3", x.law(0, 0, 0, 0), 21);
    }

    /** "All is as the IMAGE has it, which stays": what is done then isn't done to it. */
    private static void imageStays() {
        SweptRound x = new SweptRound();
        yards(x, 5, 2);
        x.image();
        for (int i = 0; i < 3; i++) {
            x.change(0, 0, 100);
            x.change(1, 1, 0);
            x.become(1, 43);
            x.days(2);
            due.is("DAY", x.restore(), 0);
            due.is("DIRT", x.count(5), 0);
            due.is("CARS", x.count(6), 3);
            due.is("KIND", x.ofYard(1, 0), 0);
        }
        x.change(0, 0, 50);
        x.image();
        x.change(0, 0, 60);
        x.restore();
        due.is("in place of one ahead", x.count(5), 50);
    }

    /** "(but SHEETS, THE TRACE, what told() tells, and how often this was done)". */
    private static void imageIsNoSheet() {
        SweptRound x = new SweptRound();
        yards(x, -1, 1);
        Due.fill(x, 0, 8, 5);
        Due.fill(x, 1, 8, 5);
        x.voice(0, 0, 1);
        x.told(0);
        x.image();
        x.put(0, 0, 6);
        x.sheet(1, 0, 0);
        x.sheet(2, 16, 1);
        x.voice(0, 1, 1);
        x.told(0);
        x.restore();
        due.is("SHEET 1 is missing", x.judge(1), Due.NONE);
        due.is("SHEET 2 isn't", x.put(2, 0, 1), 1);
        due.is("SHEET 0", number(x, 8, 0, 0), 6);
        due.is("THE TRACE", x.trace(0), 11);
        due.is("told", x.told(1), 2);
        due.is("how often", x.image(), 2);
    }

    /** No numbers wait: they all are so. */
    private static void checkNone() {
        SweptRound x = new SweptRound();
        due.is("no YARDS", x.check(), 0);
        yards(x, -1, 1);
        due.is("one", x.check(), 0);
        due.is("none wait", x.count(8), 0);
        SweptRound empty = new SweptRound();
        for (int i = 0; i < 20; i++) {
            empty.tell(0);
        }
        due.is("no DIRT of no YARDS", empty.check(), 0);
        empty.tell(1);
        due.is("some of no YARDS", empty.check(), 1);
    }

    /** "else 1 and the place (from 0) of the first that isn't so"; "(none do then)". */
    private static void checkEachPlace() {
        for (int wrong = 0; wrong <= 20; wrong++) {
            SweptRound x = new SweptRound();
            Due.read(x, 0, "1");
            Due.read(x, 1, "0");
            yards(x, -1, 3);
            for (int i = 0; i < 20; i++) {
                due.is("tell", x.tell(3 * (i + 1) + (i >= wrong ? 1 : 0)), i + 1);
            }
            due.is("wrong from " + wrong + " on", x.check(), wrong == 20 ? 0 : 1 + wrong);
            due.is("none wait", x.count(8), 0);
            due.is("none wait, so it is", x.check(), 0);
            due.is("only thought", x.count(1) + x.count(5), 0);
        }
    }

    /** "FULL: 20 wait": any number waits, and after a check() 20 have a place again. */
    private static void checkOfFullWait() {
        SweptRound x = new SweptRound();
        int[] any = {0, -1, Integer.MIN_VALUE, Integer.MAX_VALUE, -1000000001};
        for (int round = 0; round < 3; round++) {
            for (int i = 0; i < 20; i++) {
                due.is("tell", x.tell(any[i % any.length]), i + 1);
            }
            due.is("FULL", x.tell(0), Due.FULL);
            due.is("20 wait", x.count(8), 20);
            due.is("the second isn't so", x.check(), 2);
        }
        due.is("told", x.told(4), 3);
    }

    /** Each of 0 to 10 at its greatest. */
    private static void countEach() {
        SweptRound x = new SweptRound();
        for (int i = 0; i < 12; i++) {
            x.yard(0, 999, 99);
        }
        x.set(0, 9);
        x.set(1, 99);
        x.set(2, 99999);
        for (int i = 0; i < 7; i++) {
            x.feed(0, i < 6 ? 8 : 2);
        }
        for (int i = 0; i < 20; i++) {
            x.tell(i);
        }
        x.become(11, 60);
        x.voice(11, 3, 5);
        x.seed(Integer.MAX_VALUE);
        int[] want = {12, 0, 9, 99, 99999, 11988, 4095, 50, 20, 9, Integer.MAX_VALUE};
        for (int what = 0; what <= 10; what++) {
            due.is("count " + what, x.count(what), want[what]);
        }
    }

    /** "How many acts have answered an ERROR LOW - k (k 1 .. 5); BEYOND: another k (counted, too)." */
    private static void toldEach() {
        SweptRound x = new SweptRound();
        x.yard(0, 0, 0);
        for (int i = 1; i <= 3; i++) {
            due.is("k 0", x.told(0), Due.BEYOND);
            due.is("k 6", x.told(6), Due.BEYOND);
            x.trace(0);
            x.sheet(0, 8, -1);
            x.as(0, 1);
            due.is("BEYOND", x.told(1), 2 * i);
            due.is("NONE", x.told(2), i);
            due.is("STATE", x.told(3), i);
            due.is("FULL", x.told(4), 0);
            due.is("KIND", x.told(5), i);
        }
        due.is("telling is no ERROR", x.told(1), 6);
        due.is("a FAULT is none", x.text(0), -10);
        due.is("nor -1", x.sheet(0, 8, 1) + x.put(0, 0, 1) + x.judge(0), 1);
        due.is("as many as ahead", x.told(1) + x.told(2) + x.told(3) + x.told(4) + x.told(5), 15);
    }

    /** "An object is used for at most 512 calls": the last one still is as due. */
    private static void calls512() {
        SweptRound x = new SweptRound();
        for (int i = 0; i < 511; i++) {
            x.told(0);
        }
        due.is("the 512th call", x.told(1), 511);
        SweptRound image = new SweptRound();
        for (int i = 1; i <= 512; i++) {
            due.is("image", image.image(), i);
        }
    }
}
