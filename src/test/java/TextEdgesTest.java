/** The document's Terms, 2, and promises 9 to 11: a test for each sentence that names a boundary. */
public final class TextEdgesTest {
    private static final Due due = new Due();

    private static final String FIFTY = "1+1+1+1+1+1+1+1+1+1+1+1+1+1+1+1+1+1+1+1+1+1+1+1+11";

    public static void main(String[] args) {
        lowestBytesFirst();
        bytesOfTape();
        everyFirstByte();
        everyByteBehindName();
        everyByteBehindNumber();
        digits();
        oneComparison();
        openAtOnce();
        openAndClosed();
        endsTooEarly();
        fiftyBytes();
        intsThatWrap();
        cutAndRest();
        by0();
        trueIsNot0();
        firstBinds();
        heldLeaves();
        heldSign();
        namesInOrder();
        withoutText();
        faultKeepsTheOneAhead();
        due.end();
    }

    private static void reads(int use, String text) {
        due.is("\"" + text + "\"", Due.read(new SweptRound(), use, text), 1);
    }

    private static void fault(int use, String text, int at) {
        SweptRound x = new SweptRound();
        due.is("\"" + text + "\"", Due.read(x, use, text), -10 - at);
        due.is("THE TAPE is empty behind \"" + text + "\"", x.count(7), 0);
        for (int k = 1; k <= 5; k++) {
            due.is("no ERROR of \"" + text + "\"", x.told(k), 0);
        }
    }

    /** Whether a TEXT is just want, which LEAVES alone would hold within 0 to 99. */
    private static void value(String text, int a, int b, int c, int want) {
        SweptRound x = new SweptRound();
        due.is("reading " + text, Due.read(x, 0, "(" + text + ")=" + (want < 0 ? "0-" + -want : "" + want)), 1);
        due.is(text + " of " + a + ", " + b + ", " + c, x.law(0, a, b, c), 1);
    }

    /** "The n lowest bytes (1 .. 8) of a word, the lowest first, come to THE TAPE: how many there are." */
    private static void lowestBytesFirst() {
        for (int n = 1; n <= 8; n++) {
            SweptRound x = new SweptRound();
            due.is("feed " + n, x.feed(0x382b372b362b352bL << 8 | '9', n), n);
            due.is("count", x.count(7), n);
            int[] sums = {9, 9, 14, 14, 20, 20, 27, 27};
            due.is("text of " + n, x.text(0), n % 2 == 1 ? 1 : -10 - n);
            due.is("law of " + n, x.law(0, 0, 0, 0), n % 2 == 1 ? sums[n - 1] : 3);
        }
        SweptRound x = new SweptRound();
        due.is("the highest byte", x.feed((long) '7' << 56 | 0x002b2b2b2b2b2b2bL, 7), 7);
        due.is("isn't there", x.text(0), -10);
        due.is("all 8", x.feed(0x3739292b38283628L, 8), 8);
        due.is("(6(8+)97", x.text(0), -12);
    }

    /** Bytes are told apart as 0 to 255: one with its highest bit is no NAME, no sign. */
    private static void bytesOfTape() {
        SweptRound x = new SweptRound();
        due.is("8 times 255", x.feed(-1L, 8), 8);
        due.is("FAULT", x.text(0), -10);
        due.is("'1' and the highest bit", x.feed('1' | 128, 1), 1);
        due.is("FAULT", x.text(0), -10);
        due.is("'1', then '+' and the highest bit", x.feed('1' | ('+' | 128L) << 8, 2), 2);
        due.is("FAULT", x.text(0), -11);
        due.is("'1', 0", x.feed('1', 2), 2);
        due.is("FAULT", x.text(0), -11);
    }

    private static void everyByte(int use, String behind, String goesOn, String mayEnd) {
        for (char c = 0; c < 256; c++) {
            int at = behind.length();
            int want = mayEnd.indexOf(c) >= 0 ? 1 : goesOn.indexOf(c) >= 0 ? -10 - at - 1 : -10 - at;
            due.is("byte " + (int) c + " behind \"" + behind + "\" for " + use,
                Due.read(new SweptRound(), use, behind + c), want);
        }
    }

    /** "Q: a NUMBER, a NAME, ! Q, ( T )", also behind every sign. */
    private static void everyFirstByte() {
        for (String behind : new String[] {"", "1|", "1&", "1<", "1=", "1>", "1+", "1-", "1*", "1/", "1%", "!"}) {
            everyByte(0, behind, "!(", "0123456789ydx");
            everyByte(1, behind, "!(", "0123456789sde");
        }
        everyByte(0, "(", "!(0123456789ydx", "");
    }

    private static void everyByteBehindName() {
        everyByte(0, "x", "|&<=>+-*/%", "");
        everyByte(1, "(e)", "|&<=>+-*/%", "");
        everyByte(0, "!y", "|&<=>+-*/%", "");
        everyByte(1, "0<s", "|&+-*/%", "");
        everyByte(0, "(1+x", "|&<=>+-*/%", ")");
        everyByte(0, "((1+x", "|&<=>+-*/%)", "");
    }

    private static void everyByteBehindNumber() {
        everyByte(0, "1", "|&<=>+-*/%", "0123456789");
        everyByte(0, "123", "|&<=>+-*/%", "0123456789");
        everyByte(0, "1234", "|&<=>+-*/%", "");
        everyByte(1, "d>1234", "|&+-*/%", "");
    }

    /** "a NUMBER of 1 to 4 digits". */
    private static void digits() {
        value("7", 0, 0, 0, 7);
        value("9999", 0, 0, 0, 9999);
        value("0000", 0, 0, 0, 0);
        value("0012", 0, 0, 0, 12);
        fault(0, "10000", 4);
        fault(0, "00000", 4);
        fault(0, "1+99999", 6);
        fault(0, "(12345)", 5);
    }

    /** "B: S, or S < S, S = S, S > S": no more than one of them, but one in each ( ), and on each side of | and &. */
    private static void oneComparison() {
        for (char a : "<=>".toCharArray()) {
            for (char b : "<=>".toCharArray()) {
                fault(0, "1" + a + "2" + b + "3", 3);
                fault(0, "1" + a + "2+3" + b + "4", 5);
                reads(0, "1" + a + "2|3" + b + "4");
                reads(0, "1" + a + "2&3" + b + "4");
                reads(0, "(1" + a + "2)" + b + "3");
                reads(0, "1" + a + "(2" + b + "3)");
                fault(0, "1" + a + "!2" + b + "3", 4);
            }
        }
    }

    /** "At most 5 of ! and ( are open at once." Each of 32 ways to have five, and each of 64 to have six. */
    private static void openAtOnce() {
        for (int ways = 0; ways < 32; ways++) {
            reads(0, opened(ways, 5) + "1" + closed(ways, 5));
        }
        for (int ways = 0; ways < 64; ways++) {
            fault(0, opened(ways, 6) + "1" + closed(ways, 6), 5);
        }
    }

    private static String opened(int ways, int many) {
        StringBuilder s = new StringBuilder();
        for (int i = 0; i < many; i++) {
            s.append((ways >> i & 1) == 0 ? '(' : '!');
        }
        return s.toString();
    }

    private static String closed(int ways, int many) {
        return ")".repeat(many - Integer.bitCount(ways));
    }

    /** What is closed is open no more; a ! is, behind its Q. */
    private static void openAndClosed() {
        reads(0, "(((((1)))))+(((((2)))))");
        reads(0, "!!!!!1*!!!!!2");
        reads(0, "!!!!(1)+(!!!!1)");
        reads(0, "((((1)+(2)+!3)))");
        reads(0, "((((!1+(2)))))");
        fault(0, "((((!1+!(2)))))", 8);
        fault(0, "!!!!(!1)", 5);
        fault(0, "!!!!((1))", 5);
        fault(0, "(((!(1))))+((((((1))))))", 16);
        fault(0, "1)", 1);
        fault(0, "(1))", 3);
        fault(0, "(((((1))))))", 11);
    }

    /** "how many there are, if it ends too early". */
    private static void endsTooEarly() {
        due.is("no bytes", new SweptRound().text(0), -10);
        due.is("no bytes", new SweptRound().text(1), -10);
        String[] early = {"(", "!", "1+", "1|", "d<", "(1", "(((((1", "!(d", "1+(2*3", "!!!!!", "1<2&", "((1)"};
        for (String text : early) {
            fault(0, text, text.length());
            fault(1, text, text.length());
        }
    }

    /** "THE TAPE (bytes, at most 50)". */
    private static void fiftyBytes() {
        due.is("50", FIFTY.length(), 50);
        SweptRound x = new SweptRound();
        due.is("all are read", Due.read(x, 0, FIFTY), 1);
        due.is("law", x.law(0, 0, 0, 0), 35);
        due.is("again, for the other use", Due.read(x, 1, FIFTY), 1);
        fault(0, FIFTY.substring(0, 49) + "+", 50);
        fault(0, FIFTY.substring(0, 49) + ")", 49);
        fault(0, FIFTY.substring(0, 49) + "y", 49);
        fault(0, "(" + FIFTY.substring(0, 49), 50);
        fault(0, ")" + FIFTY.substring(0, 49), 0);
        String signs = "y*d-x/2%y+d*x-y%d+x*2/y-d+x%2*y-d/x+y*2-d%x+y-x*d";
        due.is("49", signs.length(), 49);
        reads(0, signs);
        reads(0, "!" + signs);
        reads(0, "!!!!!" + signs.substring(0, 45));
    }

    /** "Ints that wrap". */
    private static void intsThatWrap() {
        int most = Integer.MAX_VALUE;
        int least = Integer.MIN_VALUE;
        value("y+1=d", most, least, 0, 1);
        value("y-1=d", least, most, 0, 1);
        value("y*2", most, 0, 0, -2);
        value("y*y", most, 0, 0, 1);
        value("y*y", 65536, 0, 0, 0);
        value("y*0-1", least, 0, 0, -1);
        value("0-y=y", least, 0, 0, 1);
        value("y*(0-1)=y", least, 0, 0, 1);
        value("y/(0-1)=y", least, 0, 0, 1);
        value("y%(0-1)", least, 0, 0, 0);
        value("y+d+x", most, most, 2, 0);
        value("9999*9999*9999*9999=y", 1089432001, 0, 0, 1);
        value("y<d", least, most, 0, 1);
        value("d>y", least, most, 0, 1);
        value("y-d<0", least, 1, 0, 0);
    }

    /** "/ cut, % the rest that it leaves". */
    private static void cutAndRest() {
        value("y/d", 7, 2, 0, 3);
        value("y/d", -7, 2, 0, -3);
        value("y/d", 7, -2, 0, -3);
        value("y/d", -7, -2, 0, 3);
        value("y/d", -1, 2, 0, 0);
        value("y%d", 7, 4, 0, 3);
        value("y%d", -7, 4, 0, -3);
        value("y%d", 7, -4, 0, 3);
        value("y%d", -7, -4, 0, -3);
        value("y%d", -8, 4, 0, 0);
    }

    /** "both by 0 are 0". */
    private static void by0() {
        for (int y : new int[] {0, 1, -1, 7, Integer.MAX_VALUE, Integer.MIN_VALUE}) {
            value("y/0", y, 0, 0, 0);
            value("y%0", y, 0, 0, 0);
            value("y/d", y, 0, 0, 0);
            value("y%d", y, 0, 0, 0);
            value("y/(d-d)+4", y, 9, 0, 4);
            value("0&(y/0)", y, 0, 0, 0);
        }
    }

    /** "| & < = > ! are 1 or 0, what is not 0 being true". */
    private static void trueIsNot0() {
        int[] trues = {1, 2, -1, Integer.MAX_VALUE, Integer.MIN_VALUE};
        for (int t : trues) {
            value("y|d", t, 0, 0, 1);
            value("d|y", t, 0, 0, 1);
            value("y|y", t, 0, 0, 1);
            value("y&d", t, 0, 0, 0);
            value("d&y", t, 0, 0, 0);
            value("y&x", t, 0, 4, 1);
            value("!y", t, 0, 0, 0);
            value("!!y", t, 0, 0, 1);
            value("y=y", t, 0, 0, 1);
        }
        value("0|0", 0, 0, 0, 0);
        value("0&0", 0, 0, 0, 0);
        value("!0", 0, 0, 0, 1);
        int[][] less = {{-1, 0}, {0, 1}, {1, 2}, {Integer.MIN_VALUE, Integer.MAX_VALUE}, {98, 99}};
        for (int[] l : less) {
            value("y<d", l[0], l[1], 0, 1);
            value("y=d", l[0], l[1], 0, 0);
            value("y>d", l[0], l[1], 0, 0);
            value("y<d", l[1], l[0], 0, 0);
            value("y=d", l[1], l[0], 0, 0);
            value("y>d", l[1], l[0], 0, 1);
            value("y<d", l[0], l[0], 0, 0);
            value("y=d", l[0], l[0], 0, 1);
            value("y>d", l[0], l[0], 0, 0);
        }
    }

    /** Which part is within which, and that what stands left is joined first. */
    private static void firstBinds() {
        value("1|0&0", 0, 0, 0, 1);
        value("0&0|1", 0, 0, 0, 1);
        value("0&1<2", 0, 0, 0, 0);
        value("2=2&3=3", 0, 0, 0, 1);
        value("1+1=2", 0, 0, 0, 1);
        value("2<1+2", 0, 0, 0, 1);
        value("9-4-3", 0, 0, 0, 2);
        value("9-4+3", 0, 0, 0, 8);
        value("1+2*3", 0, 0, 0, 7);
        value("2*3+1", 0, 0, 0, 7);
        value("9/2*2", 0, 0, 0, 8);
        value("9*2/4", 0, 0, 0, 4);
        value("9%5%3", 0, 0, 0, 1);
        value("20/3%4", 0, 0, 0, 2);
        value("!1+1", 0, 0, 0, 1);
        value("!0*5", 0, 0, 0, 5);
        value("5-!0", 0, 0, 0, 4);
        value("1-!(2-2)*3", 0, 0, 0, -2);
        value("!(1+1)", 0, 0, 0, 0);
        value("7*(2-4)", 0, 0, 0, -14);
    }

    /** "held within 0 to 99". */
    private static void heldLeaves() {
        SweptRound x = new SweptRound();
        Due.read(x, 0, "x");
        int[][] giveAndHeld = {{-1, 0}, {0, 0}, {1, 1}, {98, 98}, {99, 99}, {100, 99}, {101, 99},
            {Integer.MAX_VALUE, 99}, {Integer.MIN_VALUE, 0}};
        for (int[] g : giveAndHeld) {
            due.is("LEAVES of " + g[0], x.law(0, 0, 0, g[0]), g[1]);
        }
    }

    /** "held within 0 to 1". */
    private static void heldSign() {
        SweptRound x = new SweptRound();
        Due.read(x, 1, "e");
        int[][] giveAndHeld = {{-1, 0}, {0, 0}, {1, 1}, {2, 1}, {Integer.MAX_VALUE, 1}, {Integer.MIN_VALUE, 0}};
        for (int[] g : giveAndHeld) {
            due.is("SIGN of " + g[0], x.law(1, 0, 0, g[0]), g[1]);
        }
    }

    private static void namesInOrder() {
        String[] names = {"ydx", "sde"};
        for (int use = 0; use < 2; use++) {
            for (int i = 0; i < 3; i++) {
                SweptRound x = new SweptRound();
                Due.read(x, use, names[use].substring(i, i + 1));
                due.is("first NAME", x.law(use, 1, 0, 0), i == 0 ? 1 : 0);
                due.is("second NAME", x.law(use, 0, 1, 0), i == 1 ? 1 : 0);
                due.is("third NAME", x.law(use, 0, 0, 1), i == 2 ? 1 : 0);
            }
        }
    }

    /** "without a TEXT 3"; "without a TEXT 1 on the LEFT, if d is 1, on the RIGHT, if d is 4, else 0". */
    private static void withoutText() {
        SweptRound x = new SweptRound();
        int[] any = {Integer.MIN_VALUE, -1, 0, 1, 4, 29, Integer.MAX_VALUE};
        for (int a : any) {
            due.is("LEAVES", x.law(0, a, a, a), 3);
            for (int d = -1; d <= 8; d++) {
                due.is("LEFT, d " + d + ", e " + a, x.law(1, 0, d, a), d == 1 ? 1 : 0);
                due.is("RIGHT, d " + d + ", e " + a, x.law(1, 1, d, a), d == 4 ? 1 : 0);
            }
        }
        Due.read(x, 0, "1");
        due.is("SIGN is still without one", x.law(1, 1, 4, 0), 1);
        SweptRound other = new SweptRound();
        Due.read(other, 1, "0");
        due.is("LEAVES is still without one", other.law(0, 0, 0, 0), 3);
    }

    /** "in place of one ahead: 1"; "-10 less the FAULT (no ERROR; the one ahead stays)". */
    private static void faultKeepsTheOneAhead() {
        for (int use = 0; use < 2; use++) {
            SweptRound x = new SweptRound();
            int without = x.law(use, 0, 1, 0);
            due.is("FAULT, none ahead", Due.read(x, use, "1+1+"), -14);
            due.is("none stays", x.law(use, 0, 1, 0), without);
            due.is("the first", Due.read(x, use, "d-1"), 1);
            due.is("it gives", x.law(use, 0, 1, 0) * 10 + x.law(use, 0, 2, 0), 1);
            due.is("FAULT", Due.read(x, use, "1*d+)"), -14);
            due.is("the first stays", x.law(use, 0, 1, 0) * 10 + x.law(use, 0, 2, 0), 1);
            due.is("empty", x.text(use), -10);
            due.is("the first stays", x.law(use, 0, 1, 0) * 10 + x.law(use, 0, 2, 0), 1);
            due.is("the second", Due.read(x, use, "d<2"), 1);
            due.is("in its place", x.law(use, 0, 1, 0) * 10 + x.law(use, 0, 2, 0), 10);
            due.is("no ERRORS", x.told(1) + x.told(2) + x.told(3) + x.told(4) + x.told(5), 0);
        }
    }
}
