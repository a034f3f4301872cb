/** The document's Terms, 3, of draws and VOICES, and promises 13, 26 to 28: a test for each boundary. */
public final class DrawEdgesTest {
    private static final Due due = new Due();

    private static final int[] SEEDS = {
        1, 0, -1, 2, 5, 77, Integer.MAX_VALUE, Integer.MIN_VALUE, -1000000001, 123456789, -987654321
    };

    public static void main(String[] args) {
        anySeed();
        drawsThatWrap();
        drawsOfEachStreet();
        drawsWithoutYards();
        drawsAheadOfTheDay();
        manyAreOneByOne();
        voicesThatGoRound();
        voicesByNumberAndM();
        voicesAreNoErrors();
        traceOfTheLatest();
        traceOfEachVoice();
        traceIsBelow40();
        due.end();
    }

    /** "z becomes v: what it was (any number)"; "1 at first". */
    private static void anySeed() {
        SweptRound x = new SweptRound();
        int was = 1;
        for (int seed : SEEDS) {
            due.is("seed(" + seed + ")", x.seed(seed), was);
            due.is("count(10)", x.count(10), seed);
            was = seed;
        }
        for (int k = 1; k <= 5; k++) {
            x.seed(-1000000000 - k);
            due.is("like an ERROR", x.count(10), -1000000000 - k);
            due.is("but none", x.told(k), 0);
        }
    }

    private static int next(int z) {
        return (int) ((z * 1103515245L + 12345L) & 0xffffffffL);
    }

    /** What z >>> 8 is: never below 0. */
    private static int given(int z) {
        return (int) ((z & 0xffffffffL) / 256);
    }

    /** "z * 1103515245 + 12345 (an int), and gives z >>> 8"; "WIND is its rest by 10". */
    private static void drawsThatWrap() {
        for (int seed : SEEDS) {
            SweptRound x = new SweptRound();
            x.yard(0, 0, -1);
            x.seed(seed);
            int first = next(seed);
            x.loose(1);
            due.is("z of " + seed, x.count(10), next(first));
            due.is("WIND of " + seed, x.count(2), given(first) % 10);
        }
        SweptRound x = new SweptRound();
        x.loose(1);
        due.is("z, from 1", x.count(10), -1770082073);
        due.is("WIND, from 1", x.count(2), 1103527590 / 256 % 10);
    }

    /** "the one that is its rest by how many there are gets a CAR, if it had none, loses it, if it had one". */
    private static void drawsOfEachStreet() {
        for (int yards = 1; yards <= 12; yards++) {
            SweptRound x = new SweptRound();
            for (int i = 0; i < yards; i++) {
                x.yard(0, 0, i % 2 == 0 ? 7 : -1);
            }
            int z = 1;
            int cars = x.count(6);
            for (int i = 0; i < 30; i++) {
                z = next(next(z));
                cars ^= 1 << given(z) % yards;
                x.loose(1);
                due.is("CARS of " + yards, x.count(6), cars);
            }
            for (int i = 0; i < yards; i++) {
                due.is("BOLD of " + i, x.ofYard(i, 4), i % 2 == 0 ? 7 : 0);
            }
        }
    }

    /** "another draw: if there are YARDS, .." is drawn without them, too. */
    private static void drawsWithoutYards() {
        SweptRound x = new SweptRound();
        int z = 1;
        for (int i = 1; i <= 10; i++) {
            int first = next(z);
            z = next(first);
            due.is("no DIRT", x.loose(1), 0);
            due.is("z", x.count(10), z);
            due.is("WIND", x.count(2), given(first) % 10);
            due.is("DAY", x.count(1), i);
            due.is("no CARS", x.count(6), 0);
        }
    }

    private static SweptRound busy(int seed, int yards) {
        SweptRound x = new SweptRound();
        Due.read(x, 0, "y*5+d+x%7");
        Due.read(x, 1, "d=s*3|e%4=s");
        for (int i = 0; i < yards; i++) {
            x.yard(i * 17 % 70, i * 71, i % 3 == 0 ? -1 : i);
        }
        x.seed(seed);
        return x;
    }

    private static void alike(String what, SweptRound got, SweptRound want) {
        for (int n = 0; n < 10; n++) {
            due.is(what + ", count " + n, got.count(n), want.count(n));
        }
        for (int yard = 0; yard < want.count(0); yard++) {
            for (int n = 0; n <= 4; n++) {
                due.is(what + ", of YARD " + yard + ", " + n, got.ofYard(yard, n), want.ofYard(yard, n));
            }
        }
    }

    /** "then a DAY": with the WIND and the CAR that were drawn for it. */
    private static void drawsAheadOfTheDay() {
        for (int yards = 1; yards <= 12; yards++) {
            SweptRound x = busy(SEEDS[yards % SEEDS.length], yards);
            SweptRound byHand = busy(1, yards);
            int z = x.count(10);
            for (int i = 0; i < 6; i++) {
                z = next(z);
                byHand.set(0, given(z) % 10);
                z = next(z);
                int yard = given(z) % yards;
                byHand.change(yard, 1, 1 - byHand.ofYard(yard, 3));
                due.is("DIRT of all", x.loose(1), byHand.days(1));
            }
            alike(yards + " YARDS", x, byHand);
        }
    }

    /** "n (1 to 40) DAYS by draws". */
    private static void manyAreOneByOne() {
        SweptRound at = busy(9, 12);
        SweptRound one = busy(9, 12);
        int last = 0;
        for (int i = 0; i < 40; i++) {
            last = one.loose(1);
        }
        due.is("DIRT of all", at.loose(40), last);
        due.is("z", at.count(10), one.count(10));
        due.is("DAY", at.count(1), 40);
        alike("40", at, one);
    }

    private static int voice(int km, int act, int v) {
        SweptRound x = new SweptRound();
        for (int i = 0; i < 12; i++) {
            x.yard(0, 0, -1);
        }
        x.become(11, km);
        return x.voice(11, act, v);
    }

    /** "ints that go round": n is 11. */
    private static void voicesThatGoRound() {
        int most = Integer.MAX_VALUE;
        int least = Integer.MIN_VALUE;
        due.is("x + n", voice(9, 0, most), least + 10);
        due.is("falls * 2", voice(9, 1, most), (least + 10) * 2);
        due.is("falls * 2", voice(9, 1, 1 << 30), least + 22);
        due.is("x - m", voice(9, 2, least), most - 8);
        due.is("moves ^ sweeps", voice(9, 3, least), 22 ^ most - 8);
        due.is("super.falls * 3", voice(19, 0, 1 << 30), (1 << 30) * 3 + 33);
        due.is("super.falls * 3, then * 2", voice(19, 1, 1 << 30), least + 66);
        due.is("super.moves - sweeps", voice(29, 1, least), 22 + 8);
        due.is("-super.sweeps of the least", voice(30, 2, least), least);
        due.is("-super.sweeps", voice(39, 2, least), -(most - 8));
        due.is("super.blocks - falls", voice(40, 3, least), (66 ^ least) - 39);
        due.is("super.moves(x + 1)", voice(50, 1, most), 22 - 1);
        due.is("super.sweeps ^ n", voice(60, 2, least), least ^ 11);
        due.is("moves - super.blocks", voice(60, 3, least), 22 - (22 ^ least ^ 11));
    }

    /** "n is the number, m as told": 0 and 11, 0 and 9. */
    private static void voicesByNumberAndM() {
        SweptRound x = new SweptRound();
        for (int i = 0; i < 12; i++) {
            x.yard(i % 10, 0, -1);
        }
        for (int i = 0; i < 12; i++) {
            due.is("falls of " + i, x.voice(i, 0, 0), i);
            due.is("sweeps of " + i, x.voice(i, 2, 0), -(i % 10));
        }
        x.become(11, 9);
        due.is("m becomes 9", x.voice(11, 2, 0), -9);
    }

    /** "any number": told() doesn't tell of one that is like an ERROR. */
    private static void voicesAreNoErrors() {
        SweptRound x = new SweptRound();
        x.yard(0, 0, -1);
        for (int k = 1; k <= 5; k++) {
            due.is("like ERROR " + k, x.voice(0, 0, -1000000000 - k), -1000000000 - k);
            due.is("but none", x.told(k), 0);
        }
    }

    private static void trace(SweptRound x, String what, int... bodies) {
        due.is(what + ", how many", x.count(9), bodies.length);
        for (int i = 0; i < bodies.length; i++) {
            due.is(what + ", " + i, x.trace(i), bodies[i]);
        }
        due.is(what + ", no more", x.trace(bodies.length), Due.NONE);
    }

    /** "of the latest voice()": empty at first; none of an earlier one stays; not of a refused one. */
    private static void traceOfTheLatest() {
        SweptRound x = new SweptRound();
        trace(x, "at first");
        x.yard(60, 0, -1);
        x.yard(0, 0, -1);
        trace(x, "still");
        x.voice(0, 3, 1);
        trace(x, "the longest", 71, 11, 10, 13, 11, 10, 70, 40, 12);
        x.voice(1, 0, 1);
        trace(x, "the shortest", 10);
        x.voice(1, 4, 1);
        x.voice(2, 0, 1);
        x.voice(-1, 0, 1);
        trace(x, "of none that is refused", 10);
        x.image();
        x.voice(1, 1, 1);
        x.restore();
        trace(x, "not of the IMAGE", 11, 10);
        x.become(1, 40);
        trace(x, "as it was spoken", 11, 10);
    }

    /** "what stands left is worked out first": the TRACE of every VOICE of every KIND. */
    private static void traceOfEachVoice() {
        int[][][] bodies = {
            {{10}, {11, 10}, {12}, {13, 11, 10, 12}},
            {{20, 10}, {11, 20, 10}, {12}, {13, 11, 20, 10, 12}},
            {{10}, {30, 11, 10, 12}, {12}, {13, 30, 11, 10, 12, 12}},
            {{10}, {11, 10}, {40, 12}, {13, 11, 10, 40, 12}},
            {{20, 10}, {11, 20, 10}, {12}, {50, 13, 11, 20, 10, 12, 20, 10}},
            {{10}, {60, 30, 11, 10, 12}, {12}, {13, 60, 30, 11, 10, 12, 12}},
            {{10}, {11, 10}, {70, 40, 12}, {71, 11, 10, 13, 11, 10, 70, 40, 12}}
        };
        SweptRound x = new SweptRound();
        x.yard(0, 0, -1);
        for (int kind = 0; kind < 7; kind++) {
            x.become(0, kind * 10 + 3);
            for (int act = 0; act < 4; act++) {
                x.voice(0, act, 9);
                trace(x, "KIND " + kind + ", act " + act, bodies[kind][act]);
            }
        }
    }

    /** "the first 40": no VOICE has more than 9, so 39 and 40 are none. */
    private static void traceIsBelow40() {
        SweptRound x = new SweptRound();
        x.yard(60, 0, -1);
        x.voice(0, 3, 1);
        due.is("8", x.trace(8), 12);
        due.is("9", x.trace(9), Due.NONE);
        due.is("39", x.trace(39), Due.NONE);
        due.is("40", x.trace(40), Due.NONE);
        due.is("told", x.told(2), 3);
    }
}
