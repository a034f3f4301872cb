/** Promises 26 to 39: draws, voices, sheets, images, what is told. */
public final class SheetsTest {
    private static final Due due = new Due();

    public static void main(String[] args) {
        seed();
        voices();
        voiceErrors();
        sheet();
        put();
        move();
        dirts();
        judge();
        image();
        tellAndCheck();
        count();
        told();
        due.end();
    }

    private static void seed() {
        SweptRound x = new SweptRound();
        due.is("1 at first", x.seed(-1000000001), 1);
        due.is("any number", x.count(10), -1000000001);
        due.is("what it was", x.seed(5), -1000000001);
        due.is("no ERROR", x.told(1), 0);
    }

    /** Speaks as YARD number 3 of a KIND with m 2. */
    private static void voice(int kind, int act, int x, int want, int... bodies) {
        SweptRound s = new SweptRound();
        for (int i = 0; i < 4; i++) {
            s.yard(kind * 10 + 2, 0, -1);
        }
        String call = "voice of " + kind + ", " + act + ", " + x;
        due.is(call, s.voice(3, act, x), want);
        due.is(call + ", count", s.count(9), bodies.length);
        for (int i = 0; i < bodies.length; i++) {
            due.is(call + ", trace " + i, s.trace(i), bodies[i]);
        }
        due.is(call + ", no more", s.trace(bodies.length), Due.NONE);
        due.is(call + ", trace -1", s.trace(-1), Due.NONE);
    }

    private static void voices() {
        voice(0, 0, 5, 8, 10);
        voice(0, 1, 5, 16, 11, 10);
        voice(0, 2, 5, 3, 12);
        voice(0, 3, 5, 16 ^ 3, 13, 11, 10, 12);
        voice(1, 0, 5, 24, 20, 10);
        voice(1, 1, 5, 48, 11, 20, 10);
        voice(1, 3, 5, 48 ^ 3, 13, 11, 20, 10, 12);
        voice(2, 1, 5, 16 + 1, 30, 11, 10, 12);
        voice(2, 3, 5, 17 ^ 3, 13, 30, 11, 10, 12, 12);
        voice(3, 2, 5, -3, 40, 12);
        voice(3, 3, 5, 16 ^ -3, 13, 11, 10, 40, 12);
        voice(4, 0, 5, 24, 20, 10);
        voice(4, 3, 5, (48 ^ 3) - 15, 50, 13, 11, 20, 10, 12, 20, 10);
        voice(5, 1, 5, 18 + 1, 60, 30, 11, 10, 12);
        voice(5, 3, 5, 19 ^ 3, 13, 60, 30, 11, 10, 12, 12);
        voice(6, 2, 5, -3 ^ 3, 70, 40, 12);
        voice(6, 1, 5, 16, 11, 10);
        voice(6, 3, 5, 16 - (16 ^ (-3 ^ 3)), 71, 11, 10, 13, 11, 10, 70, 40, 12);
        voice(0, 0, Integer.MAX_VALUE, Integer.MIN_VALUE + 2, 10);
        voice(0, 2, -999999999, -1000000001, 12);
    }

    private static void voiceErrors() {
        SweptRound x = new SweptRound();
        x.yard(3, 0, -1);
        due.is("like BEYOND", x.voice(0, 2, -999999998), -1000000001);
        due.is("but no ERROR", x.told(1), 0);
        due.is("act 4", x.voice(0, 4, 0), Due.BEYOND);
        due.is("act -1", x.voice(0, -1, 0), Due.BEYOND);
        due.is("no YARD", x.voice(1, 0, 0), Due.BEYOND);
        due.is("THE TRACE stays", x.trace(0), 12);
        due.is("ERRORS", x.told(1), 3);
        due.is("trace 40", x.trace(40), Due.NONE);
        due.is("trace, least", x.trace(Integer.MIN_VALUE), Due.NONE);
    }

    private static void sheet() {
        SweptRound x = new SweptRound();
        due.is("8", x.sheet(0, 8, 40), 1);
        due.is("16", x.sheet(1, 16, 0), 1);
        due.is("32", x.sheet(3, 32, 1), 1);
        due.is("41", x.sheet(2, 8, 41), Due.BEYOND);
        due.is("-1", x.sheet(2, 8, -1), Due.STATE);
        due.is("least", x.sheet(2, 8, Integer.MIN_VALUE), Due.STATE);
        due.is("still missing", x.judge(2), Due.NONE);
        due.is("SHEET 4, ahead of STATE", x.sheet(4, 8, -1), Due.BEYOND);
        due.is("SHEET -1", x.sheet(-1, 8, 1), Due.BEYOND);
        due.is("9 bits, ahead of STATE", x.sheet(0, 9, -1), Due.BEYOND);
        due.is("-8 bits", x.sheet(0, -8, 1), Due.BEYOND);
        due.is("number 39", x.put(0, 39, 1), 1);
        due.is("away, whatever n", x.sheet(0, 0, -5), 1);
        due.is("away, whatever n", x.sheet(3, 0, 99), 1);
        due.is("missing", x.put(0, 0, 1), Due.NONE);
        due.is("missing", x.put(3, 0, 1), Due.NONE);
        x.yard(0, 7, 0);
        Due.fill(x, 0, 8, 1);
        due.is("1", x.judge(0), -1);
        x.sheet(0, 8, 1);
        due.is("all 0 anew", x.judge(0), 0);
        x.put(0, 0, 1);
        due.is("an ERROR changes nothing", x.sheet(0, 16, 41), Due.BEYOND);
        due.is("as it was", x.judge(0), -1);
    }

    private static void put() {
        SweptRound x = new SweptRound();
        x.yard(0, 500, -1);
        due.is("SHEET 4", x.put(4, 0, 0), Due.BEYOND);
        due.is("SHEET -1", x.put(-1, 0, 0), Due.BEYOND);
        due.is("NONE ahead of BEYOND", x.put(0, -1, 0), Due.NONE);
        x.sheet(0, 8, 2);
        due.is("number 2", x.put(0, 2, 0), Due.BEYOND);
        due.is("number -1", x.put(0, -1, 0), Due.BEYOND);
        due.is("300", x.put(0, 0, 300), 1);
        x.dirts(0);
        due.is("lowest 8 bits", x.ofYard(0, 2), 44);
        x.put(0, 0, 200);
        due.is("200 is below 0 in 8 bits", x.dirts(0), 0);
        x.put(0, 0, 127);
        due.is("127 isn't", x.dirts(0), 1);
        x.sheet(0, 16, 2);
        x.put(0, 0, 65536 + 777);
        x.dirts(0);
        due.is("lowest 16 bits", x.ofYard(0, 2), 777);
        x.sheet(0, 32, 2);
        x.put(0, 0, 65536 + 777);
        due.is("all 32 bits", x.dirts(0), 0);
    }

    private static void same(SweptRound x, int sheet, int... want) {
        x.dirts(sheet);
        for (int i = 0; i < want.length; i++) {
            due.is("number " + i, x.ofYard(i, 2), want[i]);
        }
    }

    private static void move() {
        SweptRound x = new SweptRound();
        for (int i = 0; i < 5; i++) {
            x.yard(0, 0, -1);
        }
        Due.fill(x, 0, 16, 1, 2, 3, 4, 5);
        Due.fill(x, 1, 16, 11, 12, 13, 14, 15);
        Due.fill(x, 2, 8, 1, 2);
        due.is("to another", x.move(0, 1, 1, 0, 3), 3);
        same(x, 1, 2, 3, 4, 14, 15);
        same(x, 0, 1, 2, 3, 4, 5);
        due.is("up", x.move(0, 0, 0, 1, 4), 4);
        same(x, 0, 1, 1, 2, 3, 4);
        due.is("down", x.move(0, 1, 0, 0, 4), 4);
        same(x, 0, 1, 2, 3, 4, 4);
        due.is("none", x.move(0, 5, 1, 5, 0), 0);
        due.is("SHEET 4", x.move(4, 0, 0, 0, 0), Due.BEYOND);
        due.is("other -1, ahead of NONE", x.move(3, 0, -1, 0, 0), Due.BEYOND);
        due.is("missing", x.move(3, 0, 0, 0, 0), Due.NONE);
        due.is("the other missing, ahead of KIND", x.move(0, 9, 3, 0, 0), Due.NONE);
        due.is("unlike, ahead of BEYOND", x.move(0, -1, 2, 0, 1), Due.KIND);
        due.is("n -1", x.move(0, 0, 1, 0, -1), Due.BEYOND);
        due.is("i -1", x.move(0, -1, 1, 0, 1), Due.BEYOND);
        due.is("j -1", x.move(0, 0, 1, -1, 1), Due.BEYOND);
        due.is("i too high", x.move(0, 3, 1, 0, 3), Due.BEYOND);
        due.is("j too high", x.move(0, 0, 1, 3, 3), Due.BEYOND);
        due.is("no wrapping", x.move(0, Integer.MAX_VALUE, 1, 0, Integer.MAX_VALUE), Due.BEYOND);
        due.is("no wrapping", x.move(0, 1, 1, Integer.MAX_VALUE, 1), Due.BEYOND);
        same(x, 1, 2, 3, 4, 14, 15);
    }

    private static void dirts() {
        SweptRound x = new SweptRound();
        due.is("SHEET 4", x.dirts(4), Due.BEYOND);
        due.is("SHEET -1", x.dirts(-1), Due.BEYOND);
        due.is("missing", x.dirts(0), Due.NONE);
        Due.fill(x, 0, 32, 0, 999, 5);
        due.is("no YARDS", x.dirts(0), 0);
        x.yard(0, 7, -1);
        x.yard(0, 7, -1);
        due.is("as many as YARDS", x.dirts(0), 2);
        due.is("999", x.ofYard(1, 2), 999);
        x.yard(0, 7, -1);
        x.yard(0, 7, -1);
        due.is("as many as numbers", x.dirts(0), 3);
        due.is("the next stays", x.ofYard(3, 2), 7);
        Due.fill(x, 0, 32, 9, 1000, 8);
        due.is("up to 1000", x.dirts(0), 1);
        due.is("9", x.ofYard(0, 2), 9);
        due.is("stays", x.ofYard(1, 2), 999);
        due.is("stays", x.ofYard(2, 2), 5);
        Due.fill(x, 0, 32, -1);
        due.is("up to -1", x.dirts(0), 0);
        due.is("no ERROR", x.told(1) + x.told(2), 3);
    }

    private static void judge() {
        SweptRound x = new SweptRound();
        due.is("SHEET 4", x.judge(4), Due.BEYOND);
        due.is("SHEET -1", x.judge(-1), Due.BEYOND);
        due.is("missing", x.judge(0), Due.NONE);
        Due.fill(x, 0, 8);
        due.is("none of none", x.judge(0), -1);
        x.yard(0, 0, 5);
        x.yard(0, 0, -1);
        due.is("one lacks", x.judge(0), 0);
        Due.fill(x, 0, 8, 1, 0);
        due.is("all", x.judge(0), -1);
        Due.fill(x, 0, 8, 1, 1);
        due.is("no CAR", x.judge(0), 1);
        Due.fill(x, 0, 8, 2, 0);
        due.is("2 is not 1", x.judge(0), 0);
        Due.fill(x, 0, 8, 1);
        due.is("the second lacks", x.judge(0), 1);
        Due.fill(x, 0, 8, 1, 0, 0);
        due.is("a third is too many", x.judge(0), 2);
    }

    private static void image() {
        SweptRound x = new SweptRound();
        x.yard(41, 50, 60);
        x.days(2);
        x.set(0, 3);
        x.set(1, 4);
        x.set(2, 5);
        x.seed(6);
        x.tell(7);
        Due.read(x, 0, "8");
        Due.read(x, 1, "1");
        Due.feed(x, "9+");
        Due.fill(x, 0, 8, 1);
        x.voice(0, 0, 0);
        due.is("image", x.image(), 1);
        int[] before = new int[11];
        for (int what = 0; what < 11; what++) {
            before[what] = x.count(what);
        }
        int dirt = x.ofYard(0, 2);
        x.become(0, 69);
        x.change(0, 0, 1);
        x.change(0, 1, 0);
        x.change(0, 2, 1);
        x.yard(0, 1, 1);
        x.loose(3);
        x.set(1, 9);
        x.set(2, 9);
        Due.feed(x, "1");
        x.tell(1);
        x.check();
        x.tell(8);
        x.tell(8);
        x.text(0);
        Due.read(x, 0, "2");
        Due.read(x, 1, "0");
        x.put(0, 0, 0);
        x.voice(0, 1, 0);
        x.told(0);
        due.is("DAY", x.restore(), 2);
        for (int what = 0; what < 11; what++) {
            due.is("count " + what, x.count(what), what == 9 ? 2 : before[what]);
        }
        int[] yard = {4, 1, dirt, 1, 60};
        for (int what = 0; what < 5; what++) {
            due.is("of YARD " + what, x.ofYard(0, what), yard[what]);
        }
        due.is("LEAVES", x.law(0, 0, 0, 0), 8);
        due.is("SIGN", x.law(1, 0, 0, 0), 1);
        due.is("SHEETS are not kept", x.judge(0), 0);
        due.is("THE TRACE isn't", x.trace(0), 11);
        due.is("nor what is told", x.told(1), 1);
        due.is("what waits", x.check(), 1);
        Due.feed(x, "4");
        due.is("THE TAPE", x.text(0), 1);
        due.is("9+4", x.law(0, 0, 0, 0), 13);
        due.is("it stays", x.restore(), 2);
        due.is("LEAVES again", x.law(0, 0, 0, 0), 8);
        x.days(1);
        due.is("another image", x.image(), 2);
        due.is("in its place", x.restore(), 3);
        due.is("a third", x.image(), 3);
    }

    private static void tellAndCheck() {
        SweptRound x = new SweptRound();
        due.is("nothing waits", x.check(), 0);
        x.yard(0, 10, -1);
        due.is("13", x.tell(13), 1);
        due.is("0, as LEFT is swept", x.tell(0), 2);
        due.is("3", x.tell(3), 3);
        due.is("so it is", x.check(), 0);
        due.is("none wait", x.count(8), 0);
        due.is("only thought", x.count(1), 0);
        x.tell(13);
        x.tell(1);
        x.tell(1);
        due.is("the second isn't", x.check(), 2);
        due.is("none wait then, too", x.count(8), 0);
        x.yard(0, 5, -1);
        x.tell(21);
        x.tell(11);
        due.is("of all YARDS", x.check(), 0);
        for (int i = 1; i <= 20; i++) {
            due.is("any number", x.tell(Integer.MIN_VALUE), i);
        }
        due.is("20 wait", x.tell(0), Due.FULL);
        due.is("still 20", x.count(8), 20);
        due.is("told", x.told(4), 1);
        due.is("the first isn't", x.check(), 1);
    }

    private static void count() {
        SweptRound x = new SweptRound();
        x.yard(0, 10, 0);
        x.yard(0, 20, -1);
        x.yard(0, 30, 0);
        due.is("YARDS", x.count(0), 3);
        due.is("DIRT", x.count(5), 60);
        due.is("CARS", x.count(6), 5);
        due.is("11", x.count(11), Due.BEYOND);
        due.is("-1", x.count(-1), Due.BEYOND);
    }

    private static void told() {
        SweptRound x = new SweptRound();
        due.is("0", x.told(0), Due.BEYOND);
        due.is("6", x.told(6), Due.BEYOND);
        due.is("-1", x.told(-1), Due.BEYOND);
        due.is("counted, too", x.told(1), 3);
        x.restore();
        due.is("NONE", x.told(2), 1);
        x.sheet(0, 8, -1);
        due.is("STATE", x.told(3), 1);
        for (int i = 0; i < 21; i++) {
            x.tell(0);
        }
        due.is("FULL", x.told(4), 1);
        x.yard(0, 0, 0);
        x.as(0, 1);
        x.as(0, 2);
        due.is("KIND", x.told(5), 2);
        due.is("BEYOND", x.told(1), 3);
    }
}
