import java.util.List;

/** Compares answers with those that are due, and ends a test. */
final class Due {
    static final int BEYOND = -1000000001;
    static final int NONE = -1000000002;
    static final int STATE = -1000000003;
    static final int FULL = -1000000004;
    static final int KIND = -1000000005;

    private int right;
    private int wrong;

    void is(String call, long got, long want) {
        if (got == want) {
            right++;
            return;
        }
        wrong++;
        System.out.println(call + " answered " + got + ", due is " + want);
    }

    void same(String what, List<Integer> got, List<Integer> want) {
        is(what + ", " + got + " and not " + want, got.equals(want) ? 1 : 0, 1);
    }

    void end() {
        System.out.println(right + " answers as due, " + wrong + " not");
        if (wrong > 0 || right == 0) {
            System.exit(1);
        }
    }

    /** Feeds a TEXT in words of up to 8 bytes and has it read. */
    static int read(SweptRound x, int use, String text) {
        feed(x, text);
        return x.text(use);
    }

    static int feed(SweptRound x, String text) {
        int many = -1;
        for (int from = 0; from < text.length(); from += 8) {
            int n = Math.min(8, text.length() - from);
            long word = 0;
            for (int i = 0; i < n; i++) {
                word |= (text.charAt(from + i) & 255L) << (8 * i);
            }
            many = x.feed(word, n);
        }
        return many;
    }

    static void fill(SweptRound x, int sheet, int bits, int... numbers) {
        x.sheet(sheet, bits, numbers.length);
        for (int i = 0; i < numbers.length; i++) {
            x.put(sheet, i, numbers[i]);
        }
    }
}
