/** Promises 1 to 8: a new object, yards, cars, signs. */
public final class YardsTest {
    private static final Due due = new Due();

    public static void main(String[] args) {
        newObject();
        yard();
        ofYard();
        fallsByKind();
        takesByKind();
        change();
        set();
        become();
        as();
        sign();
        due.end();
    }

    private static void newObject() {
        SweptRound x = new SweptRound();
        int[] first = {0, 0, 0, 11, 0, 0, 0, 0, 0, 0, 1};
        for (int what = 0; what < first.length; what++) {
            due.is("new count(" + what + ")", x.count(what), first[what]);
        }
        for (int k = 1; k <= 5; k++) {
            due.is("new told(" + k + ")", x.told(k), 0);
        }
        due.is("new law LEAVES", x.law(0, 0, 0, 0), 3);
        due.is("new check", x.check(), 0);
        for (int s = 0; s < 4; s++) {
            due.is("new judge", x.judge(s), Due.NONE);
        }
        due.is("new trace", x.trace(0), Due.NONE);
        due.is("new restore", x.restore(), Due.NONE);
        due.is("new ofYard", x.ofYard(0, 0), Due.BEYOND);
    }

    private static void yard() {
        SweptRound x = new SweptRound();
        due.is("km -1", x.yard(-1, 0, 0), Due.BEYOND);
        due.is("km 70", x.yard(70, 0, 0), Due.BEYOND);
        due.is("dirt -1", x.yard(0, -1, 0), Due.BEYOND);
        due.is("dirt 1000", x.yard(0, 1000, 0), Due.BEYOND);
        due.is("bold -2", x.yard(0, 0, -2), Due.BEYOND);
        due.is("bold 100", x.yard(0, 0, 100), Due.BEYOND);
        due.is("least km", x.yard(Integer.MIN_VALUE, 0, 0), Due.BEYOND);
        due.is("greatest dirt", x.yard(0, Integer.MAX_VALUE, 0), Due.BEYOND);
        due.is("none came", x.count(0), 0);
        due.is("0", x.yard(69, 999, 99), 0);
        due.is("1", x.yard(0, 0, -1), 1);
        for (int i = 2; i < 12; i++) {
            due.is("yard " + i, x.yard(i * 5, i, 0), i);
        }
        due.is("13th", x.yard(0, 0, 0), Due.FULL);
        due.is("BEYOND ahead of FULL", x.yard(70, 0, 0), Due.BEYOND);
        due.is("12", x.count(0), 12);
        due.is("cars", x.count(6), 0xffd);
        int[] first = {6, 9, 999, 1, 99};
        int[] second = {0, 0, 0, 0, 0};
        for (int what = 0; what < 5; what++) {
            due.is("of 0", x.ofYard(0, what), first[what]);
            due.is("of 1", x.ofYard(1, what), second[what]);
        }
        due.is("told FULL", x.told(4), 1);
        due.is("told BEYOND", x.told(1), 9);
    }

    private static void ofYard() {
        SweptRound x = new SweptRound();
        x.yard(47, 12, 34);
        due.is("kind", x.ofYard(0, 0), 4);
        due.is("m", x.ofYard(0, 1), 7);
        due.is("dirt", x.ofYard(0, 2), 12);
        due.is("car", x.ofYard(0, 3), 1);
        due.is("bold", x.ofYard(0, 4), 34);
        due.is("falls", x.ofYard(0, 5), 4);
        due.is("takes", x.ofYard(0, 6), 12);
        due.is("what 7", x.ofYard(0, 7), Due.BEYOND);
        due.is("what -1", x.ofYard(0, -1), Due.BEYOND);
        due.is("yard 1", x.ofYard(1, 0), Due.BEYOND);
        due.is("yard -1", x.ofYard(-1, 0), Due.BEYOND);
    }

    private static int falls(SweptRound x, int km, int car) {
        x.become(0, km);
        x.change(0, 1, car);
        return x.ofYard(0, 5);
    }

    private static void fallsByKind() {
        SweptRound x = new SweptRound();
        x.yard(0, 10, -1);
        Due.read(x, 0, "7");
        due.is("YARD", falls(x, 9, 1), 7);
        due.is("SWEPT", falls(x, 15, 0), 5);
        due.is("SWEPT of 3", falls(x, 13, 0), 7);
        due.is("COVERED", falls(x, 25, 1), 3);
        due.is("WAITED with a CAR", falls(x, 35, 1), 8);
        due.is("WAITED without", falls(x, 35, 0), 7);
        due.is("DOUBLED", falls(x, 44, 0), 12);
        due.is("EMPTY, DAY 0", falls(x, 59, 0), 12);
        x.set(0, 9);
        due.is("BLOWN with a CAR", falls(x, 60, 1), 17);
        due.is("BLOWN without", falls(x, 60, 0), 16);
        due.is("no wind for WAITED", falls(x, 35, 0), 7);
        x.days(1);
        due.is("EMPTY, DAY 1", falls(x, 59, 0), 3);
        x.days(6);
        due.is("EMPTY, DAY 7", falls(x, 59, 0), 12);
        Due.read(x, 0, "1");
        due.is("SWEPT, held", falls(x, 12, 0), 0);
        due.is("DOUBLED, held", falls(x, 48, 0), 0);
        due.is("COVERED, cut", falls(x, 28, 0), 0);
        Due.read(x, 0, "y*1000+d*10+x");
        x.change(0, 0, 5);
        due.is("LEAVES by d and x", falls(x, 0, 0), 75);
        x.yard(0, 0, -1);
        due.is("LEAVES by y, held", x.ofYard(1, 5), 99);
    }

    private static int takes(SweptRound x, int kind, int dirt) {
        x.become(0, kind * 10);
        x.change(0, 0, dirt);
        return x.ofYard(0, 6);
    }

    private static void takesByKind() {
        SweptRound x = new SweptRound();
        x.yard(0, 0, -1);
        due.is("YARD", takes(x, 0, 999), 999);
        due.is("SWEPT odd", takes(x, 1, 7), 6);
        due.is("SWEPT even", takes(x, 1, 8), 8);
        due.is("SWEPT many", takes(x, 1, 501), 500);
        due.is("COVERED", takes(x, 2, 7), 3);
        due.is("WAITED 50", takes(x, 3, 50), 50);
        due.is("WAITED 51", takes(x, 3, 51), 50);
        due.is("WAITED 7", takes(x, 3, 7), 7);
        due.is("DOUBLED 99", takes(x, 4, 99), 98);
        due.is("DOUBLED 100", takes(x, 4, 100), 99);
        due.is("DOUBLED 5", takes(x, 4, 5), 4);
        due.is("EMPTY 7", takes(x, 5, 7), 7);
        due.is("EMPTY 20", takes(x, 5, 20), 20);
        due.is("EMPTY 23", takes(x, 5, 23), 21);
        due.is("BLOWN 60", takes(x, 6, 60), 50);
        due.is("none", takes(x, 5, 0), 0);
    }

    private static void change() {
        SweptRound x = new SweptRound();
        x.yard(0, 10, 20);
        due.is("dirt", x.change(0, 0, 999), 10);
        due.is("dirt again", x.change(0, 0, 0), 999);
        due.is("car away", x.change(0, 1, 0), 1);
        due.is("car back", x.change(0, 1, 1), 0);
        due.is("bold", x.change(0, 2, 99), 20);
        due.is("bold again", x.change(0, 2, 0), 99);
        due.is("bold stays with no car", x.change(0, 2, 33), 0);
        x.change(0, 1, 0);
        due.is("bold of no car", x.ofYard(0, 4), 33);
        int[][] wrong = {
            {0, 0, 1000}, {0, 0, -1}, {0, 1, 2}, {0, 1, -1}, {0, 2, 100}, {0, 2, -1},
            {0, 3, 0}, {0, -1, 0}, {1, 0, 0}, {-1, 0, 0}
        };
        for (int[] w : wrong) {
            due.is("change " + w[0] + " " + w[1] + " " + w[2], x.change(w[0], w[1], w[2]), Due.BEYOND);
        }
        due.is("dirt stays", x.ofYard(0, 2), 0);
        due.is("told", x.told(1), wrong.length);
    }

    private static void set() {
        SweptRound x = new SweptRound();
        due.is("wind", x.set(0, 9), 0);
        due.is("wind again", x.set(0, 0), 9);
        due.is("fine", x.set(1, 99), 11);
        due.is("fine again", x.set(1, 0), 99);
        due.is("pence", x.set(2, 99999), 0);
        due.is("pence again", x.set(2, 5), 99999);
        int[][] wrong = {{0, 10}, {0, -1}, {1, 100}, {1, -1}, {2, 100000}, {2, -1}, {3, 0}, {-1, 0}};
        for (int[] w : wrong) {
            due.is("set " + w[0] + " " + w[1], x.set(w[0], w[1]), Due.BEYOND);
        }
        due.is("wind stays", x.count(2), 0);
        due.is("fine stays", x.count(3), 0);
        due.is("pence stays", x.count(4), 5);
    }

    private static void become() {
        SweptRound x = new SweptRound();
        x.yard(23, 77, 8);
        due.is("was COVERED", x.become(0, 69), 2);
        due.is("kind", x.ofYard(0, 0), 6);
        due.is("m", x.ofYard(0, 1), 9);
        due.is("dirt stays", x.ofYard(0, 2), 77);
        due.is("car stays", x.ofYard(0, 3), 1);
        due.is("bold stays", x.ofYard(0, 4), 8);
        due.is("was BLOWN", x.become(0, 0), 6);
        due.is("km 70", x.become(0, 70), Due.BEYOND);
        due.is("km -1", x.become(0, -1), Due.BEYOND);
        due.is("no yard", x.become(1, 0), Due.BEYOND);
        due.is("yard -1", x.become(-1, 0), Due.BEYOND);
        due.is("still YARD", x.ofYard(0, 0), 0);
    }

    private static void as() {
        int[][] under = {{0}, {0, 1}, {0, 2}, {0, 3}, {0, 1, 4}, {0, 2, 5}, {0, 3, 6}};
        SweptRound x = new SweptRound();
        x.yard(0, 0, -1);
        for (int kind = 0; kind < 7; kind++) {
            x.become(0, kind * 10 + kind);
            for (int as = 0; as < 7; as++) {
                boolean is = false;
                for (int u : under[kind]) {
                    is |= u == as;
                }
                due.is(kind + " as " + as, x.as(0, as), is ? kind : Due.KIND);
            }
        }
        due.is("kind 7", x.as(0, 7), Due.BEYOND);
        due.is("kind -1", x.as(0, -1), Due.BEYOND);
        due.is("no yard", x.as(1, 0), Due.BEYOND);
        due.is("told KIND", x.told(5), 49 - 16);
    }

    private static void sign() {
        SweptRound x = new SweptRound();
        for (int on = 0; on < 100; on++) {
            due.is("LEFT " + on, x.sign(0, on), on % 7 == 1 ? 1 : 0);
            due.is("RIGHT " + on, x.sign(1, on), on % 7 == 4 ? 1 : 0);
        }
        x.days(3);
        due.is("from DAY 3", x.sign(1, 1), 1);
        due.is("days 100", x.sign(0, 100), Due.BEYOND);
        due.is("days -1", x.sign(0, -1), Due.BEYOND);
        due.is("side 2", x.sign(2, 0), Due.BEYOND);
        due.is("side -1", x.sign(-1, 0), Due.BEYOND);
        Due.read(x, 1, "s=1&e=29");
        due.is("by e", x.sign(1, 26), 1);
        due.is("by e, LEFT", x.sign(0, 26), 0);
        due.is("by e, a DAY on", x.sign(1, 27), 0);
        due.is("by e, a month on", x.sign(1, 56), 1);
    }
}
