import java.util.ArrayList;
import java.util.List;

/**
 * What can be seen of an object but for what told() tells: all but the width of SHEETS (only whether it is that of
 * SHEET 3), their numbers outside of 0 to 999, and laws at other places. Looking uses the object up.
 */
final class Probe {
    private final SweptRound x;
    private final List<Integer> seen = new ArrayList<>();

    private Probe(SweptRound x) {
        this.x = x;
    }

    static List<Integer> of(SweptRound x) {
        Probe p = new Probe(x);
        p.street();
        p.trace();
        p.sheets();
        p.waitingAndTape();
        p.see(x.restore());
        p.street();
        p.waitingAndTape();
        p.see(x.image());
        return p.seen;
    }

    private void see(int answer) {
        seen.add(answer);
    }

    private void street() {
        for (int what = 0; what <= 10; what++) {
            if (what != 9) {
                see(x.count(what));
            }
        }
        int yards = x.count(0);
        for (int yard = 0; yard < yards; yard++) {
            for (int what = 0; what <= 5; what++) {
                see(x.ofYard(yard, what));
            }
        }
        see(x.law(0, 1, 2, 3));
        see(x.law(0, 4, 29, 500));
        for (int d = 0; d < 7; d++) {
            see(x.law(1, 0, d, 15));
            see(x.law(1, 1, d, 20));
        }
    }

    private void trace() {
        int many = x.count(9);
        see(many);
        for (int i = 0; i < many; i++) {
            see(x.trace(i));
        }
    }

    /** How many numbers a SHEET has is the highest place from which none can be moved; -1: it is missing. */
    private int size(int sheet) {
        int least = -1;
        int most = 40;
        while (least < most) {
            int middle = (least + most + 1) / 2;
            if (x.move(sheet, middle, sheet, middle, 0) == 0) {
                least = middle;
            } else {
                most = middle - 1;
            }
        }
        return least;
    }

    private void sheets() {
        for (int sheet = 0; sheet < 4; sheet++) {
            int size = size(sheet);
            see(size);
            see(x.move(sheet, 0, 3, 0, 0));
            see(x.judge(sheet));
            for (int from = 0; from < size; from += Math.max(1, x.count(0))) {
                numbers(sheet, from, Math.min(x.count(0), size - from));
            }
        }
    }

    private void numbers(int sheet, int from, int many) {
        x.move(sheet, from, sheet, 0, many);
        see(x.dirts(sheet));
        for (int yard = 0; yard < many; yard++) {
            see(x.ofYard(yard, 2));
        }
    }

    private void waitingAndTape() {
        see(x.check());
        see(x.feed('1', 1));
        see(x.text(0));
        see(x.law(0, 1, 2, 3));
        see(x.loose(1));
        see(x.count(6));
    }
}
