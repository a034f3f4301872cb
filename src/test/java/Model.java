import java.util.ArrayDeque;
import java.util.ArrayList;
import java.util.Deque;
import java.util.List;
import java.util.function.Consumer;

/**
 * What DOC.md asks, done a second time in another way: slowly, with exceptions, texts split rather than read,
 * and faults found by one pass from byte to byte.
 */
final class Model {
    private static final int LOW = -1000000000;

    /** An ERROR, LOW less k. */
    private static final class Err extends RuntimeException {
        private static final long serialVersionUID = 1L;
        final int k;

        Err(int k) {
            super(null, null, false, false);
            this.k = k;
        }
    }

    private static final int BEYOND = 1;
    private static final int NONE = 2;
    private static final int STATE = 3;
    private static final int FULL = 4;
    private static final int KIND = 5;

    static final class Yard {
        int kind;
        int m;
        int dirt;
        boolean car;
        int bold;

        Yard copy() {
            Yard y = new Yard();
            y.kind = kind;
            y.m = m;
            y.dirt = dirt;
            y.car = car;
            y.bold = bold;
            return y;
        }
    }

    /** All that an IMAGE keeps. */
    static final class World {
        final List<Yard> yards = new ArrayList<>();
        int day;
        int wind;
        int fine = 11;
        int pence;
        int z = 1;
        final String[] texts = new String[2];
        String tape = "";
        final List<Integer> waiting = new ArrayList<>();
        /** SELDOM: 0, or both sides SIGNED just in DAYS that this divides. */
        int every;

        World copy() {
            World w = new World();
            yards.forEach(y -> w.yards.add(y.copy()));
            w.day = day;
            w.wind = wind;
            w.fine = fine;
            w.pence = pence;
            w.z = z;
            w.texts[0] = texts[0];
            w.texts[1] = texts[1];
            w.tape = tape;
            w.waiting.addAll(waiting);
            w.every = every;
            return w;
        }

        int law(int use, int a, int b, int c) {
            if (texts[use] != null) {
                String names = use == 0 ? "ydx" : "sde";
                int v = valueOf(texts[use], names, new int[] {a, b, c});
                int top = use == 0 ? 99 : 1;
                return v < 0 ? 0 : v > top ? top : v;
            }
            if (use == 0) {
                return 3;
            }
            return a == 0 && b == 1 || a == 1 && b == 4 ? 1 : 0;
        }

        boolean signed(int side, int when) {
            if (every > 0) {
                return when % every == 0;
            }
            return law(1, side, when % 7, when % 30) != 0;
        }

        int falls(int i) {
            Yard y = yards.get(i);
            int v = law(0, i, day % 30, y.dirt);
            int f = v;
            if (y.kind == 1 || y.kind == 4) {
                f = (v - y.m % 3) * (y.kind == 4 ? 2 : 1);
            }
            if (y.kind == 2 || y.kind == 5) {
                f = v / 2 + (y.kind == 5 && day % 7 == 0 ? y.m : 0);
            }
            if (y.kind == 3 || y.kind == 6) {
                f = v + (y.car ? 1 : 0) + (y.kind == 6 ? wind : 0);
            }
            return f < 0 ? 0 : f;
        }

        static int takes(Yard y) {
            int x = y.dirt;
            switch (y.kind) {
                case 1: return x / 2 * 2;
                case 4: return x / 2 * 2 > 99 ? 99 : x / 2 * 2;
                case 2: return x / 2;
                case 5: return x / 2 + 10 > x ? x : x / 2 + 10;
                case 3:
                case 6: return x > 50 ? 50 : x;
                default: return x;
            }
        }

        /** Which CARS go, left and right being SIGNED or not. */
        boolean[] going(boolean left, boolean right) {
            boolean[] go = new boolean[yards.size()];
            if (left == right) {
                return go;
            }
            int side = left ? 0 : 1;
            long places = 0;
            for (int i = 0; i < yards.size(); i++) {
                places += i % 2 != side && !yards.get(i).car ? 1 : 0;
            }
            for (int i = 0; i < yards.size(); i++) {
                Yard y = yards.get(i);
                if (i % 2 == side && y.car && y.bold < fine && places-- > 0) {
                    go[i] = true;
                }
            }
            return go;
        }

        void brush(boolean left, boolean right) {
            boolean[] go = going(left, right);
            for (int i = 0; i < yards.size(); i++) {
                Yard y = yards.get(i);
                if (!(i % 2 == 0 ? left : right)) {
                    continue;
                }
                if (y.car && !go[i]) {
                    pence = Math.min(99999, pence + fine);
                } else {
                    y.dirt -= takes(y);
                }
            }
        }

        World day() {
            int[] f = new int[yards.size()];
            for (int i = 0; i < f.length; i++) {
                f[i] = falls(i);
            }
            for (int i = 0; i < f.length; i++) {
                yards.get(i).dirt = Math.min(999, yards.get(i).dirt + f[i]);
            }
            for (int i = 1; i < f.length; i += 2) {
                int b = yards.get(i).dirt * wind / 20;
                yards.get(i).dirt -= b;
                yards.get(i - 1).dirt = Math.min(999, yards.get(i - 1).dirt + b);
            }
            brush(signed(0, day), signed(1, day));
            day++;
            return this;
        }

        World behind(int n) {
            World w = copy();
            for (int i = 0; i < n; i++) {
                w.day();
            }
            return w;
        }

        World were(Consumer<World> change) {
            World w = copy();
            change.accept(w);
            return w;
        }

        int all() {
            return yards.stream().mapToInt(y -> y.dirt).sum();
        }

        int greatest() {
            return yards.stream().mapToInt(y -> y.dirt).max().orElse(0);
        }

        int draw() {
            z = z * 1103515245 + 12345;
            return z >>> 8;
        }
    }

    World w = new World();
    private World image;
    private int images;
    private final int[] told = new int[6];
    private final List<Integer> trace = new ArrayList<>();
    final int[][] sheets = new int[4][];
    final int[] bits = new int[4];

    int call(String name, long... a) {
        try {
            int[] v = new int[a.length];
            for (int i = 0; i < v.length; i++) {
                v[i] = (int) a[i];
            }
            return act(name, a, v);
        } catch (Err e) {
            told[e.k]++;
            return LOW - e.k;
        }
    }

    private static void must(boolean so, int k) {
        if (!so) {
            throw new Err(k);
        }
    }

    private static void in(int v, int from, int to) {
        must(v >= from && v <= to, BEYOND);
    }

    private Yard yardOf(int i) {
        in(i, 0, w.yards.size() - 1);
        return w.yards.get(i);
    }

    private int act(String name, long[] a, int[] v) {
        switch (name) {
            case "yard": return yard(v);
            case "ofYard": return ofYard(v);
            case "change": return change(v);
            case "set": return set(v);
            case "become": return become(v);
            case "as": return as(v);
            case "sign":
                in(v[0], 0, 1);
                in(v[1], 0, 99);
                return w.signed(v[0], w.day + v[1]) ? 1 : 0;
            case "feed": return feed(a[0], v[1]);
            case "text": return text(v[0]);
            case "law":
                in(v[0], 0, 1);
                return w.law(v[0], v[1], v[2], v[3]);
            case "days":
                in(v[0], 1, 60);
                must(w.day + v[0] <= 9999, STATE);
                w = w.behind(v[0]);
                return w.all();
            case "loose": return loose(v[0]);
            case "seed": {
                int was = w.z;
                w.z = v[0];
                return was;
            }
            case "image":
                image = w.copy();
                return ++images;
            case "restore":
                must(image != null, NONE);
                w = image.copy();
                return w.day;
            case "tell":
                must(w.waiting.size() < 20, FULL);
                w.waiting.add(v[0]);
                return w.waiting.size();
            case "check": return check();
            case "count": return count(v[0]);
            case "told":
                in(v[0], 1, 5);
                return told[v[0]];
            default: return thinkOrWrite(name, v);
        }
    }

    private int thinkOrWrite(String name, int[] v) {
        switch (name) {
            case "then":
                in(v[0], 0, 60);
                yardOf(v[1]);
                return w.behind(v[0]).yards.get(v[1]).dirt;
            case "worst": return worst(v);
            case "stay": return stay();
            case "side": return side(v[0]);
            case "seldom": return seldom(v[0]);
            case "leastFine": return leastFine(v[0]);
            case "tow": return tow(v);
            case "broom": return broom(v);
            case "fits": return fits(v);
            case "paid":
                in(v[0], 0, 60);
                return w.behind(v[0]).pence - w.pence;
            case "bell":
                in(v[0], 0, 60);
                return w.behind(v[0]).all() - w.were(o -> o.yards.forEach(y -> y.car = false)).behind(v[0]).all();
            case "odds": return odds(v);
            case "voice": return voice(v);
            case "trace":
                must(v[0] >= 0 && v[0] < trace.size(), NONE);
                return trace.get(v[0]);
            case "sheet": return sheet(v);
            case "put": return put(v);
            case "move": return move(v);
            case "dirts": return dirts(v[0]);
            case "judge": return judge(v[0]);
            default: throw new IllegalStateException(name);
        }
    }

    private int yard(int[] v) {
        in(v[0], 0, 69);
        in(v[1], 0, 999);
        in(v[2], -1, 99);
        must(w.yards.size() < 12, FULL);
        Yard y = new Yard();
        y.kind = v[0] / 10;
        y.m = v[0] % 10;
        y.dirt = v[1];
        y.car = v[2] != -1;
        y.bold = y.car ? v[2] : 0;
        w.yards.add(y);
        return w.yards.size() - 1;
    }

    private int ofYard(int[] v) {
        Yard y = yardOf(v[0]);
        in(v[1], 0, 6);
        return new int[] {y.kind, y.m, y.dirt, y.car ? 1 : 0, y.bold, w.falls(v[0]), World.takes(y)}[v[1]];
    }

    private int change(int[] v) {
        Yard y = yardOf(v[0]);
        in(v[1], 0, 2);
        in(v[2], 0, new int[] {999, 1, 99}[v[1]]);
        int was = new int[] {y.dirt, y.car ? 1 : 0, y.bold}[v[1]];
        switch (v[1]) {
            case 0: y.dirt = v[2]; break;
            case 1: y.car = v[2] == 1; break;
            default: y.bold = v[2];
        }
        return was;
    }

    private int set(int[] v) {
        in(v[0], 0, 2);
        in(v[1], 0, new int[] {9, 99, 99999}[v[0]]);
        int was = new int[] {w.wind, w.fine, w.pence}[v[0]];
        switch (v[0]) {
            case 0: w.wind = v[1]; break;
            case 1: w.fine = v[1]; break;
            default: w.pence = v[1];
        }
        return was;
    }

    private int become(int[] v) {
        Yard y = yardOf(v[0]);
        in(v[1], 0, 69);
        int was = y.kind;
        y.kind = v[1] / 10;
        y.m = v[1] % 10;
        return was;
    }

    private int as(int[] v) {
        Yard y = yardOf(v[0]);
        in(v[1], 0, 6);
        must(v[1] == 0 || y.kind == v[1] || y.kind == v[1] + 3, KIND);
        return y.m;
    }

    private int feed(long word, int n) {
        in(n, 1, 8);
        must(w.tape.length() + n <= 50, FULL);
        for (int i = 0; i < n; i++) {
            w.tape += (char) (word & 255);
            word >>= 8;
        }
        return w.tape.length();
    }

    private int text(int use) {
        in(use, 0, 1);
        String t = w.tape;
        w.tape = "";
        int fault = faultIn(t, use == 0 ? "ydx" : "sde");
        if (fault >= 0) {
            return -10 - fault;
        }
        w.texts[use] = t;
        return 1;
    }

    /** Goes from byte to byte: what is open, and whether a sign of comparing may still come within each. */
    static int faultIn(String t, String names) {
        Deque<Character> open = new ArrayDeque<>();
        Deque<Boolean> compared = new ArrayDeque<>();
        compared.push(false);
        boolean wanting = true;
        int digits = 0;
        for (int i = 0; i < t.length(); i++) {
            char c = t.charAt(i);
            if (wanting) {
                if (c == '!' || c == '(') {
                    if (open.size() == 5) {
                        return i;
                    }
                    open.push(c);
                    if (c == '(') {
                        compared.push(false);
                    }
                    continue;
                }
                boolean digit = c >= '0' && c <= '9';
                if (!digit && names.indexOf(c) < 0) {
                    return i;
                }
                digits = digit ? 1 : 4;
                wanting = false;
                while (!open.isEmpty() && open.peek() == '!') {
                    open.pop();
                }
            } else if (c >= '0' && c <= '9' && digits < 4) {
                digits++;
            } else if (c == ')' && !open.isEmpty()) {
                open.pop();
                compared.pop();
                digits = 4;
                while (!open.isEmpty() && open.peek() == '!') {
                    open.pop();
                }
            } else if ("<=>".indexOf(c) >= 0 && !compared.peek()) {
                compared.pop();
                compared.push(true);
                wanting = true;
            } else if ("|&".indexOf(c) >= 0) {
                compared.pop();
                compared.push(false);
                wanting = true;
            } else if ("+-*/%".indexOf(c) >= 0) {
                wanting = true;
            } else {
                return i;
            }
        }
        return wanting || !open.isEmpty() ? t.length() : -1;
    }

    /** Splits a TEXT that has no FAULT at its last sign of the loosest kind. */
    static int valueOf(String t, String names, int[] v) {
        for (String signs : new String[] {"|", "&", "<=>", "+-", "*/%"}) {
            int depth = 0;
            for (int i = t.length() - 1; i >= 0; i--) {
                char c = t.charAt(i);
                depth += c == ')' ? 1 : c == '(' ? -1 : 0;
                if (depth == 0 && signs.indexOf(c) >= 0) {
                    return join(c, valueOf(t.substring(0, i), names, v), valueOf(t.substring(i + 1), names, v));
                }
            }
        }
        if (t.charAt(0) == '!') {
            return valueOf(t.substring(1), names, v) == 0 ? 1 : 0;
        }
        if (t.charAt(0) == '(') {
            return valueOf(t.substring(1, t.length() - 1), names, v);
        }
        int name = names.indexOf(t.charAt(0));
        return name >= 0 ? v[name] : Integer.parseInt(t);
    }

    private static int join(char c, int a, int b) {
        switch (c) {
            case '|': return a != 0 | b != 0 ? 1 : 0;
            case '&': return a != 0 & b != 0 ? 1 : 0;
            case '<': return a < b ? 1 : 0;
            case '=': return a == b ? 1 : 0;
            case '>': return a > b ? 1 : 0;
            case '+': return (int) ((long) a + b);
            case '-': return (int) ((long) a - b);
            case '*': return (int) ((long) a * b);
            case '/': return b == 0 ? 0 : (int) ((long) a / b);
            default: return b == 0 ? 0 : (int) ((long) a % b);
        }
    }

    private int loose(int n) {
        in(n, 1, 40);
        must(w.day + n <= 9999, STATE);
        for (int i = 0; i < n; i++) {
            w.wind = w.draw() % 10;
            int d = w.draw();
            if (!w.yards.isEmpty()) {
                Yard y = w.yards.get(d % w.yards.size());
                y.car = !y.car;
            }
            w.day();
        }
        return w.all();
    }

    private int worst(int[] v) {
        in(v[0], 1, 999);
        in(v[1], 0, 1);
        for (int n = 0; n <= 60; n++) {
            World then = w.behind(n);
            for (int i = 0; i < then.yards.size(); i++) {
                if (then.yards.get(i).dirt >= v[0]) {
                    return v[1] == 0 ? n : i;
                }
            }
        }
        throw new Err(NONE);
    }

    private static boolean stays(World o, int i) {
        return o.yards.get(i).car && !o.going(i % 2 == 0, i % 2 == 1)[i];
    }

    private int stay() {
        int set = 0;
        for (int i = 0; i < w.yards.size(); i++) {
            set += stays(w, i) ? 1 << i : 0;
        }
        return set;
    }

    private int side(int what) {
        in(what, 0, 1);
        int left = w.were(o -> o.brush(true, false)).all();
        int right = w.were(o -> o.brush(false, true)).all();
        return left <= right ? (what == 0 ? 0 : left) : (what == 0 ? 1 : right);
    }

    private int seldom(int v) {
        in(v, 1, 999);
        int greatest = 0;
        for (int k = 1; k <= 14; k++) {
            World o = w.copy();
            o.every = k;
            boolean below = true;
            for (int n = 1; n <= 28; n++) {
                below &= o.behind(n).greatest() < v;
            }
            greatest = below ? k : greatest;
        }
        must(greatest > 0, NONE);
        return greatest;
    }

    private int leastFine(int side) {
        in(side, 0, 1);
        for (int f = 0; f < 100; f++) {
            int fine = f;
            World o = w.were(c -> c.fine = fine);
            boolean none = true;
            for (int i = side; i < o.yards.size(); i += 2) {
                none &= !stays(o, i);
            }
            if (none) {
                return f;
            }
        }
        throw new Err(NONE);
    }

    private int tow(int[] v) {
        yardOf(v[0]);
        in(v[1], 1, 999);
        in(v[2], 0, 20);
        for (int many = 0; many <= 2; many++) {
            for (int set = 0; set < 1 << w.yards.size(); set++) {
                if (Integer.bitCount(set) != many || (set & ~count(6)) != 0) {
                    continue;
                }
                World o = w.copy();
                for (int i = 0; i < o.yards.size(); i++) {
                    o.yards.get(i).car &= (set >> i & 1) == 0;
                }
                if (o.behind(v[2]).yards.get(v[0]).dirt < v[1]) {
                    return set;
                }
            }
        }
        throw new Err(NONE);
    }

    private int broom(int[] v) {
        in(v[0], 0, 30);
        in(v[1], 0, 1);
        must(!w.yards.isEmpty(), NONE);
        int best = -1;
        int least = 0;
        for (int i = 0; i < w.yards.size(); i++) {
            int yard = i;
            int g = w.were(o -> o.yards.get(yard).dirt = 0).behind(v[0]).greatest();
            if (best < 0 || g < least) {
                best = i;
                least = g;
            }
        }
        return v[1] == 0 ? best : least;
    }

    private int fits(int[] v) {
        in(v[0], 0, 3);
        in(v[1], 0, 1);
        int[] s = sheets[v[0]];
        must(s != null && s.length == w.yards.size(), NONE);
        List<Integer> fines = new ArrayList<>();
        for (int f = 0; f < 100; f++) {
            int fine = f;
            World o = w.were(c -> c.fine = fine).behind(1);
            boolean so = true;
            for (int i = 0; i < s.length; i++) {
                so &= s[i] == o.yards.get(i).dirt;
            }
            if (so) {
                fines.add(f);
            }
        }
        if (v[1] == 0) {
            return fines.size();
        }
        must(!fines.isEmpty(), NONE);
        return fines.get(0);
    }

    private int odds(int[] v) {
        yardOf(v[0]);
        in(v[1], 1, 999);
        in(v[2], 0, 60);
        in(v[3], 0, 1);
        int hits = 0;
        for (int wind = 0; wind < 10; wind++) {
            int blows = wind;
            hits += w.were(o -> o.wind = blows).behind(v[2]).yards.get(v[0]).dirt < v[1] ? 1 : 0;
        }
        int a = hits;
        int b = 10;
        while (b != 0) {
            int rest = a % b;
            a = b;
            b = rest;
        }
        return v[3] == 0 ? hits / a : 10 / a;
    }

    /** Which BODY of which KIND, by act; 0: it has none of its own. */
    private static final int[][] BODIES = {
        {10, 11, 12, 13}, {20, 0, 0, 0}, {0, 30, 0, 0}, {0, 0, 40, 0}, {0, 0, 0, 50}, {0, 60, 0, 0}, {0, 0, 70, 71}
    };

    private int voice(int[] v) {
        Yard y = yardOf(v[0]);
        in(v[1], 0, 3);
        trace.clear();
        return speak(v[0], y, y.kind, v[1], v[2]);
    }

    private static int above(int kind) {
        return kind > 3 ? kind - 3 : 0;
    }

    private int speak(int n, Yard y, int from, int act, int x) {
        int kind = from;
        while (BODIES[kind][act] == 0) {
            kind = above(kind);
        }
        if (trace.size() < 40) {
            trace.add(BODIES[kind][act]);
        }
        int up = above(kind);
        switch (BODIES[kind][act]) {
            case 10: return x + n;
            case 11: return speak(n, y, y.kind, 0, x) * 2;
            case 12: return x - y.m;
            case 13: return speak(n, y, y.kind, 1, x) ^ speak(n, y, y.kind, 2, x);
            case 20: return speak(n, y, up, 0, x) * 3;
            case 30: return speak(n, y, up, 1, x) - speak(n, y, y.kind, 2, 1);
            case 40: return -speak(n, y, up, 2, x);
            case 50: return speak(n, y, up, 3, x) - speak(n, y, y.kind, 0, 2);
            case 60: return speak(n, y, up, 1, x + 1);
            case 70: return speak(n, y, up, 2, x) ^ n;
            default: return speak(n, y, y.kind, 1, x) - speak(n, y, up, 3, x);
        }
    }

    private int sheet(int[] v) {
        in(v[0], 0, 3);
        must(v[1] == 0 || v[1] == 8 || v[1] == 16 || v[1] == 32, BEYOND);
        if (v[1] == 0) {
            sheets[v[0]] = null;
            return 1;
        }
        must(v[2] >= 0, STATE);
        must(v[2] <= 40, BEYOND);
        sheets[v[0]] = new int[v[2]];
        bits[v[0]] = v[1];
        return 1;
    }

    private int[] there(int sheet) {
        in(sheet, 0, 3);
        must(sheets[sheet] != null, NONE);
        return sheets[sheet];
    }

    private int put(int[] v) {
        int[] s = there(v[0]);
        in(v[1], 0, s.length - 1);
        int away = 32 - bits[v[0]];
        s[v[1]] = v[2] << away >> away;
        return 1;
    }

    private int move(int[] v) {
        in(v[0], 0, 3);
        in(v[2], 0, 3);
        int[] from = there(v[0]);
        int[] to = there(v[2]);
        must(bits[v[0]] == bits[v[2]], KIND);
        must(v[4] >= 0 && v[1] >= 0 && v[3] >= 0, BEYOND);
        must((long) v[1] + v[4] <= from.length && (long) v[3] + v[4] <= to.length, BEYOND);
        int[] were = from.clone();
        for (int i = 0; i < v[4]; i++) {
            to[v[3] + i] = were[v[1] + i];
        }
        return v[4];
    }

    private int dirts(int sheet) {
        int many = 0;
        for (int d : there(sheet)) {
            if (many == w.yards.size() || d < 0 || d > 999) {
                break;
            }
            w.yards.get(many++).dirt = d;
        }
        return many;
    }

    private int judge(int sheet) {
        int[] s = there(sheet);
        for (int i = 0; i < Math.max(s.length, w.yards.size()); i++) {
            if (i >= s.length || i >= w.yards.size() || s[i] != (w.yards.get(i).car ? 1 : 0)) {
                return i;
            }
        }
        return -1;
    }

    private int check() {
        List<Integer> were = new ArrayList<>(w.waiting);
        w.waiting.clear();
        for (int i = 0; i < were.size(); i++) {
            if (w.behind(i + 1).all() != were.get(i)) {
                return 1 + i;
            }
        }
        return 0;
    }

    private int count(int what) {
        in(what, 0, 10);
        int cars = 0;
        for (int i = 0; i < w.yards.size(); i++) {
            cars += w.yards.get(i).car ? 1 << i : 0;
        }
        return new int[] {
            w.yards.size(), w.day, w.wind, w.fine, w.pence, w.all(), cars,
            w.tape.length(), w.waiting.size(), trace.size(), w.z
        }[what];
    }
}
