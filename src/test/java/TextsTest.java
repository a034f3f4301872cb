/** Promises 9 to 11: THE TAPE, TEXTS, laws. */
public final class TextsTest {
    private static final Due due = new Due();

    public static void main(String[] args) {
        feed();
        text();
        faults();
        depths();
        values();
        unwritten();
        due.end();
    }

    private static void feed() {
        SweptRound x = new SweptRound();
        due.is("n 0", x.feed(0, 0), Due.BEYOND);
        due.is("n 9", x.feed(0, 9), Due.BEYOND);
        due.is("n -1", x.feed(0, -1), Due.BEYOND);
        for (int i = 1; i <= 6; i++) {
            due.is("eight more", x.feed(-1L, 8), 8 * i);
        }
        due.is("three too many", x.feed(0, 3), Due.FULL);
        due.is("BEYOND ahead of FULL", x.feed(0, 9), Due.BEYOND);
        due.is("two fit", x.feed(0, 2), 50);
        due.is("one too many", x.feed(0, 1), Due.FULL);
        due.is("count", x.count(7), 50);
        due.is("byte 255 is no name", x.text(0), -10);
        due.is("empty then", x.count(7), 0);
        x.feed(0x3837363534333231L, 4);
        due.is("lowest first", x.text(0), 1);
        due.is("1234 held", x.law(0, 0, 0, 0), 99);
        x.feed(0x2931302B3132282AL >>> 8, 7);
        due.is("(21+01)", x.text(0), 1);
        due.is("22", x.law(0, 0, 0, 0), 22);
    }

    private static void text() {
        SweptRound x = new SweptRound();
        Due.feed(x, "5");
        due.is("use 2", x.text(2), Due.BEYOND);
        due.is("use -1", x.text(-1), Due.BEYOND);
        due.is("THE TAPE stays", x.count(7), 1);
        due.is("use 0", x.text(0), 1);
        due.is("THE TAPE is empty", x.count(7), 0);
        due.is("law", x.law(0, 0, 0, 0), 5);
        due.is("a FAULT", Due.read(x, 0, "6*"), -12);
        due.is("no ERROR of it", x.told(1), 2);
        due.is("THE TAPE is empty then, too", x.count(7), 0);
        due.is("the one ahead stays", x.law(0, 0, 0, 0), 5);
        due.is("another", Due.read(x, 0, "8"), 1);
        due.is("in its place", x.law(0, 0, 0, 0), 8);
        due.is("of the other use", Due.read(x, 1, "0"), 1);
        due.is("this one stays", x.law(0, 0, 0, 0), 8);
        due.is("LEFT no more", x.law(1, 0, 1, 0), 0);
    }

    private static void fault(int use, String text, int at) {
        due.is("\"" + text + "\" for " + use, Due.read(new SweptRound(), use, text), at < 0 ? 1 : -10 - at);
    }

    private static void faults() {
        due.is("no bytes", new SweptRound().text(0), -10);
        fault(0, "y+d*x", -1);
        fault(1, "s+d*e", -1);
        fault(0, "s", 0);
        fault(0, "d+e", 2);
        fault(1, "y", 0);
        fault(1, "1|x", 2);
        fault(0, "1234", -1);
        fault(0, "12345", 4);
        fault(0, "0000+1", -1);
        fault(0, "1 +2", 1);
        fault(0, "1<2<3", 3);
        fault(0, "1<2=3", 3);
        fault(0, "1<2&3>4|5=6", -1);
        fault(0, "(1<2)<3", -1);
        fault(0, "1<(2<3<4)", 6);
        fault(0, "1+-2", 2);
        fault(0, "-1", 0);
        fault(0, "()", 1);
        fault(0, "(1", 2);
        fault(0, "1)", 1);
        fault(0, "(1))", 3);
        fault(0, "d1", 1);
        fault(0, "1d", 1);
        fault(0, "dd", 1);
        fault(0, "(1)2", 3);
        fault(0, "!", 1);
        fault(0, "1!", 1);
        fault(0, "!1*!2", -1);
        fault(0, "1|", 2);
        fault(0, "|1", 0);
        fault(0, "1&&1", 2);
        fault(0, "1<=2", 2);
        fault(0, "Y", 0);
        fault(0, "1^2", 1);
        fault(0, "1+1+1+1+1+1+1+1+1+1+1+1+1+1+1+1+1+1+1+1+1+1+1+1+11", -1);
    }

    private static void depths() {
        fault(0, "(((((1)))))", -1);
        fault(0, "((((((1))))))", 5);
        fault(0, "!!!!!1", -1);
        fault(0, "!!!!!!1", 5);
        fault(0, "!(!(!1))", -1);
        fault(0, "!(!(!(1)))", 5);
        fault(0, "!!!!!1+!!!!!2*(((((3)))))", -1);
        fault(0, "(((((1+2)*!3))))", -1);
        fault(0, "(((((1+!2)))))", 7);
        fault(0, "((((!1*!(2)))))", 8);
        fault(0, "((((!1*!2))))", -1);
    }

    private static void value(String text, int a, int b, int c, int want) {
        SweptRound x = new SweptRound();
        due.is("reading " + text, Due.read(x, 0, text), 1);
        due.is(text, x.law(0, a, b, c), want);
    }

    private static void values() {
        value("y*10+d", 3, 4, 0, 34);
        value("x", 0, 0, 77, 77);
        value("9-3-2", 0, 0, 0, 4);
        value("80/4/2", 0, 0, 0, 10);
        value("7%4*5", 0, 0, 0, 15);
        value("2+3*4", 0, 0, 0, 14);
        value("(2+3)*4", 0, 0, 0, 20);
        value("0-y/2+9", 7, 0, 0, 6);
        value("(0-7)/2+9", 0, 0, 0, 6);
        value("(0-7)%4+9", 0, 0, 0, 6);
        value("5+7/0", 0, 0, 0, 5);
        value("5+7%0", 0, 0, 0, 5);
        value("1<2", 0, 0, 0, 1);
        value("2<2", 0, 0, 0, 0);
        value("2=2", 0, 0, 0, 1);
        value("3>2", 0, 0, 0, 1);
        value("2>2", 0, 0, 0, 0);
        value("5&6", 0, 0, 0, 1);
        value("5&0", 0, 0, 0, 0);
        value("0|7", 0, 0, 0, 1);
        value("0|0", 0, 0, 0, 0);
        value("7", 0, 0, 0, 7);
        value("1|1&0", 0, 0, 0, 1);
        value("(1|1)&0", 0, 0, 0, 0);
        value("!5+3", 0, 0, 0, 3);
        value("!0+3", 0, 0, 0, 4);
        value("!!9", 0, 0, 0, 1);
        value("!(1-1)*4", 0, 0, 0, 4);
        value("1+1<3", 0, 0, 0, 1);
        value("0-1", 0, 0, 0, 0);
        value("100", 0, 0, 0, 99);
        value("y+1<0", Integer.MAX_VALUE, 0, 0, 1);
        value("y*d=0-2", Integer.MAX_VALUE, 2, 0, 1);
        value("y/d=y", Integer.MIN_VALUE, -1, 0, 1);
        value("y%d=0", Integer.MIN_VALUE, -1, 0, 1);
        value("(1|(2&(3<(4+(5*y)))))*9", 1, 0, 0, 9);
        SweptRound x = new SweptRound();
        Due.read(x, 1, "s*d-e");
        due.is("SIGN 1", x.law(1, 3, 4, 2), 1);
        due.is("SIGN 0", x.law(1, 3, 4, 12), 0);
        due.is("SIGN below 0", x.law(1, 3, 4, 99), 0);
        due.is("use 2", x.law(2, 0, 0, 0), Due.BEYOND);
        due.is("use -1", x.law(-1, 0, 0, 0), Due.BEYOND);
    }

    private static void unwritten() {
        SweptRound x = new SweptRound();
        due.is("LEAVES", x.law(0, 9, 9, 9), 3);
        for (int side = 0; side < 2; side++) {
            for (int d = -1; d < 8; d++) {
                due.is("SIGN", x.law(1, side, d, 4), d == (side == 0 ? 1 : 4) ? 1 : 0);
            }
        }
        due.is("SIGN of no side", x.law(1, 2, 1, 0), 0);
        due.is("SIGN of no side", x.law(1, -1, 4, 0), 0);
    }
}
