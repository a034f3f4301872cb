/**
 * A street of yards on two sides, its cars, signs and sweepings.
 *
 * The numbered promises stand in DOC.md; words in capitals are its terms.
 */
public final class SweptRound {
    private static final int LOW = -1000000000;
    private static final int BEYOND = LOW - 1;
    private static final int NONE = LOW - 2;
    private static final int STATE = LOW - 3;
    private static final int FULL = LOW - 4;
    private static final int KIND = LOW - 5;
    private static final int ERRORS = 5;

    private static final int MOST_YARDS = 12;
    private static final int MOST_KM = 69;
    private static final int MOST_DIRT = 999;
    private static final int MOST_BOLD = 99;
    private static final int MOST_WIND = 9;
    private static final int MOST_FINE = 99;
    private static final int MOST_PENCE = 99999;
    private static final int MOST_DAY = 9999;
    private static final int MOST_AHEAD = 60;
    private static final int MOST_TAPE = 50;
    private static final int MOST_WAITING = 20;
    private static final int MOST_TRACE = 40;
    private static final int MOST_NUMBERS = 40;
    private static final int SHEETS = 4;
    private static final int MISSING = 0;

    private static final int LEFT = 0;
    private static final int RIGHT = 1;
    private static final int BOTH_SIDES = 3;

    private static final int LEAVES = 0;
    private static final int SIGN = 1;

    private static final int[] KIND_ABOVE = {-1, 0, 0, 0, 1, 2, 3};

    private final Street street;
    /** What would be: every question is worked out here, so that the street itself stays. */
    private final Street thought;
    private final Street kept;
    private final Reader reader;
    private final Speech speech;
    private final int[][] numbers;
    private final int[] bitsOfSheet;
    private final int[] sizeOfSheet;
    private final int[] errors;
    private int images;

    public SweptRound() {
        YardKind[] kinds = {
            new YardKind(), new SweptKind(), new CoveredKind(), new WaitedKind(),
            new DoubledKind(), new EmptyKind(), new BlownKind()
        };
        Law leaves = new Law(LEAVES, new int[0]);
        Law signs = new Law(SIGN, new int[0]);
        street = new Street(kinds, leaves, signs);
        thought = new Street(kinds, leaves, signs);
        kept = new Street(kinds, leaves, signs);
        reader = new Reader();
        speech = new Speech();
        numbers = new int[SHEETS][MOST_NUMBERS];
        bitsOfSheet = new int[SHEETS];
        sizeOfSheet = new int[SHEETS];
        errors = new int[ERRORS + 1];
    }

    // ---- yards, cars, signs

    public int yard(int km, int dirt, int bold) {
        if (!within(km, 0, MOST_KM) || !within(dirt, 0, MOST_DIRT) || !within(bold, -1, MOST_BOLD)) {
            return fail(BEYOND);
        }
        if (street.count >= MOST_YARDS) {
            return fail(FULL);
        }
        int yard = street.count;
        street.count++;
        street.shape(yard, km);
        street.dirt[yard] = dirt;
        street.bold[yard] = Math.max(bold, 0);
        street.park(yard, bold >= 0);
        return yard;
    }

    public int ofYard(int yard, int what) {
        if (!street.has(yard)) {
            return fail(BEYOND);
        }
        switch (what) {
            case 0: return street.kind[yard];
            case 1: return street.m[yard];
            case 2: return street.dirt[yard];
            case 3: return street.carOf(yard);
            case 4: return street.bold[yard];
            case 5: return street.fallsNow(yard);
            case 6: return street.takesNow(yard);
            default: return fail(BEYOND);
        }
    }

    public int change(int yard, int what, int v) {
        if (!street.has(yard) || !within(what, 0, 2) || !within(v, 0, mostOfYard(what))) {
            return fail(BEYOND);
        }
        int was;
        if (what == 0) {
            was = street.dirt[yard];
            street.dirt[yard] = v;
        } else if (what == 1) {
            was = street.carOf(yard);
            street.park(yard, v == 1);
        } else {
            was = street.bold[yard];
            street.bold[yard] = v;
        }
        return was;
    }

    public int set(int what, int v) {
        if (!within(what, 0, 2) || !within(v, 0, mostOfStreet(what))) {
            return fail(BEYOND);
        }
        int was;
        if (what == 0) {
            was = street.wind;
            street.wind = v;
        } else if (what == 1) {
            was = street.fine;
            street.fine = v;
        } else {
            was = street.pence;
            street.pence = v;
        }
        return was;
    }

    public int become(int yard, int km) {
        if (!street.has(yard) || !within(km, 0, MOST_KM)) {
            return fail(BEYOND);
        }
        int was = street.kind[yard];
        street.shape(yard, km);
        return was;
    }

    public int as(int yard, int kind) {
        if (!street.has(yard) || !within(kind, 0, KIND_ABOVE.length - 1)) {
            return fail(BEYOND);
        }
        if (!isUnder(street.kind[yard], kind)) {
            return fail(KIND);
        }
        return street.m[yard];
    }

    public int sign(int side, int days) {
        if (!within(side, LEFT, RIGHT) || !within(days, 0, 99)) {
            return fail(BEYOND);
        }
        return street.signOf(side, street.day + days);
    }

    // ---- texts

    public int feed(long word, int n) {
        if (!within(n, 1, 8)) {
            return fail(BEYOND);
        }
        if (street.taped + n > MOST_TAPE) {
            return fail(FULL);
        }
        for (int i = 0; i < n; i++) {
            street.tape[street.taped] = (int) (word >>> (8 * i)) & 255;
            street.taped++;
        }
        return street.taped;
    }

    public int text(int use) {
        if (!within(use, LEAVES, SIGN)) {
            return fail(BEYOND);
        }
        int fault = reader.faultIn(street.tape, street.taped, use);
        street.taped = 0;
        if (fault >= 0) {
            return -10 - fault;
        }
        if (use == LEAVES) {
            street.leaves = reader.lawRead();
        } else {
            street.signs = reader.lawRead();
        }
        return 1;
    }

    public int law(int use, int a, int b, int c) {
        if (!within(use, LEAVES, SIGN)) {
            return fail(BEYOND);
        }
        return use == LEAVES ? street.leaves.give(a, b, c) : street.signs.give(a, b, c);
    }

    // ---- days

    public int days(int n) {
        if (!within(n, 1, MOST_AHEAD)) {
            return fail(BEYOND);
        }
        if (street.day + n > MOST_DAY) {
            return fail(STATE);
        }
        street.passAll(n);
        return street.dirtOfAll();
    }

    public int loose(int n) {
        if (!within(n, 1, 40)) {
            return fail(BEYOND);
        }
        if (street.day + n > MOST_DAY) {
            return fail(STATE);
        }
        for (int i = 0; i < n; i++) {
            street.drawWindAndCar();
            street.passAll(1);
        }
        return street.dirtOfAll();
    }

    // ---- what would be

    public int then(int n, int yard) {
        if (!within(n, 0, MOST_AHEAD) || !street.has(yard)) {
            return fail(BEYOND);
        }
        thought.thinkOf(street);
        return thought.dirtBehind(n, yard);
    }

    public int worst(int v, int what) {
        if (!within(v, 1, MOST_DIRT) || !within(what, 0, 1)) {
            return fail(BEYOND);
        }
        thought.thinkOf(street);
        for (int n = 0; n <= MOST_AHEAD; n++) {
            int yard = thought.firstWith(v);
            if (yard >= 0) {
                return what == 0 ? n : yard;
            }
            thought.passAll(1);
        }
        return fail(NONE);
    }

    public int stay() {
        return street.stayers(LEFT) | street.stayers(RIGHT);
    }

    public int side(int what) {
        if (!within(what, 0, 1)) {
            return fail(BEYOND);
        }
        int left = dirtOnceSwept(LEFT);
        int right = dirtOnceSwept(RIGHT);
        if (what == 1) {
            return Math.min(left, right);
        }
        return right < left ? RIGHT : LEFT;
    }

    public int seldom(int v) {
        if (!within(v, 1, MOST_DIRT)) {
            return fail(BEYOND);
        }
        for (int k = 14; k >= 1; k--) {
            if (staysBelow(v, k)) {
                return k;
            }
        }
        return fail(NONE);
    }

    public int leastFine(int side) {
        if (!within(side, LEFT, RIGHT)) {
            return fail(BEYOND);
        }
        thought.thinkOf(street);
        for (int fine = 0; fine <= MOST_FINE; fine++) {
            thought.fine = fine;
            if (thought.stayers(side) == 0) {
                return fine;
            }
        }
        return fail(NONE);
    }

    public int tow(int yard, int v, int n) {
        if (!street.has(yard) || !within(v, 1, MOST_DIRT) || !within(n, 0, 20)) {
            return fail(BEYOND);
        }
        if (dirtWithout(0, yard, n) < v) {
            return 0;
        }
        for (int car = 0; car < street.count; car++) {
            if (street.carOf(car) == 1 && dirtWithout(1 << car, yard, n) < v) {
                return 1 << car;
            }
        }
        int pair = leastPairToTow(yard, v, n);
        return pair == 0 ? fail(NONE) : pair;
    }

    public int broom(int n, int what) {
        if (!within(n, 0, 30) || !within(what, 0, 1)) {
            return fail(BEYOND);
        }
        if (street.count == 0) {
            return fail(NONE);
        }
        int best = 0;
        int least = MOST_DIRT + 1;
        for (int yard = 0; yard < street.count; yard++) {
            thought.thinkOf(street);
            thought.dirt[yard] = 0;
            thought.passAll(n);
            int greatest = thought.greatestDirt();
            if (greatest < least) {
                least = greatest;
                best = yard;
            }
        }
        return what == 0 ? best : least;
    }

    public int fits(int sheet, int what) {
        if (!isSheet(sheet) || !within(what, 0, 1)) {
            return fail(BEYOND);
        }
        if (bitsOfSheet[sheet] == MISSING || sizeOfSheet[sheet] != street.count) {
            return fail(NONE);
        }
        int many = 0;
        int least = -1;
        for (int fine = 0; fine <= MOST_FINE; fine++) {
            thought.thinkOf(street);
            thought.fine = fine;
            thought.passAll(1);
            if (liesAs(sheet)) {
                many++;
                least = least < 0 ? fine : least;
            }
        }
        if (what == 0) {
            return many;
        }
        return many == 0 ? fail(NONE) : least;
    }

    public int paid(int n) {
        if (!within(n, 0, MOST_AHEAD)) {
            return fail(BEYOND);
        }
        thought.thinkOf(street);
        thought.passAll(n);
        return thought.pence - street.pence;
    }

    public int bell(int n) {
        if (!within(n, 0, MOST_AHEAD)) {
            return fail(BEYOND);
        }
        thought.thinkOf(street);
        thought.passAll(n);
        int asItIs = thought.dirtOfAll();
        thought.thinkOf(street);
        thought.cars = 0;
        thought.passAll(n);
        return asItIs - thought.dirtOfAll();
    }

    public int odds(int yard, int v, int n, int part) {
        boolean asked = within(n, 0, MOST_AHEAD) && within(part, 0, 1);
        if (!street.has(yard) || !within(v, 1, MOST_DIRT) || !asked) {
            return fail(BEYOND);
        }
        int winds = MOST_WIND + 1;
        int clean = 0;
        for (int wind = 0; wind < winds; wind++) {
            thought.thinkOf(street);
            thought.wind = wind;
            if (thought.dirtBehind(n, yard) < v) {
                clean++;
            }
        }
        return (part == 0 ? clean : winds) / commonPart(clean, winds);
    }

    // ---- draws, voices, sheets, images, what is told

    public int seed(int v) {
        int was = street.z;
        street.z = v;
        return was;
    }

    public int voice(int yard, int act, int x) {
        if (!street.has(yard) || !within(act, 0, 3)) {
            return fail(BEYOND);
        }
        speech.open(yard, street.m[yard]);
        YardKind kind = street.kindOf(yard);
        switch (act) {
            case 0: return kind.falls(speech, x);
            case 1: return kind.moves(speech, x);
            case 2: return kind.sweeps(speech, x);
            default: return kind.blocks(speech, x);
        }
    }

    public int trace(int i) {
        if (!within(i, 0, speech.begun - 1)) {
            return fail(NONE);
        }
        return speech.bodies[i];
    }

    public int sheet(int sheet, int bits, int n) {
        if (!isSheet(sheet) || !isWidth(bits)) {
            return fail(BEYOND);
        }
        if (bits != MISSING && n < 0) {
            return fail(STATE);
        }
        if (bits != MISSING && n > MOST_NUMBERS) {
            return fail(BEYOND);
        }
        bitsOfSheet[sheet] = bits;
        sizeOfSheet[sheet] = bits == MISSING ? 0 : n;
        for (int i = 0; i < MOST_NUMBERS; i++) {
            numbers[sheet][i] = 0;
        }
        return 1;
    }

    public int put(int sheet, int i, int v) {
        if (!isSheet(sheet)) {
            return fail(BEYOND);
        }
        if (bitsOfSheet[sheet] == MISSING) {
            return fail(NONE);
        }
        if (!within(i, 0, sizeOfSheet[sheet] - 1)) {
            return fail(BEYOND);
        }
        numbers[sheet][i] = lowestBits(bitsOfSheet[sheet], v);
        return 1;
    }

    public int move(int sheet, int i, int other, int j, int n) {
        if (!isSheet(sheet) || !isSheet(other)) {
            return fail(BEYOND);
        }
        if (bitsOfSheet[sheet] == MISSING || bitsOfSheet[other] == MISSING) {
            return fail(NONE);
        }
        if (bitsOfSheet[sheet] != bitsOfSheet[other]) {
            return fail(KIND);
        }
        if (!stand(sheet, i, n) || !stand(other, j, n)) {
            return fail(BEYOND);
        }
        System.arraycopy(numbers[sheet], i, numbers[other], j, n);
        return n;
    }

    public int dirts(int sheet) {
        if (!isSheet(sheet)) {
            return fail(BEYOND);
        }
        if (bitsOfSheet[sheet] == MISSING) {
            return fail(NONE);
        }
        int end = Math.min(sizeOfSheet[sheet], street.count);
        for (int yard = 0; yard < end; yard++) {
            int dirt = numbers[sheet][yard];
            if (!within(dirt, 0, MOST_DIRT)) {
                return yard;
            }
            street.dirt[yard] = dirt;
        }
        return end;
    }

    public int judge(int sheet) {
        if (!isSheet(sheet)) {
            return fail(BEYOND);
        }
        if (bitsOfSheet[sheet] == MISSING) {
            return fail(NONE);
        }
        int end = Math.min(sizeOfSheet[sheet], street.count);
        for (int yard = 0; yard < end; yard++) {
            if (numbers[sheet][yard] != street.carOf(yard)) {
                return yard;
            }
        }
        return sizeOfSheet[sheet] == street.count ? -1 : end;
    }

    public int image() {
        kept.keepAllOf(street);
        images++;
        return images;
    }

    public int restore() {
        if (images == 0) {
            return fail(NONE);
        }
        street.keepAllOf(kept);
        return street.day;
    }

    public int tell(int v) {
        if (street.waits >= MOST_WAITING) {
            return fail(FULL);
        }
        street.waiting[street.waits] = v;
        street.waits++;
        return street.waits;
    }

    public int check() {
        int many = street.waits;
        street.waits = 0;
        thought.thinkOf(street);
        for (int i = 0; i < many; i++) {
            thought.passAll(1);
            if (thought.dirtOfAll() != street.waiting[i]) {
                return 1 + i;
            }
        }
        return 0;
    }

    public int count(int what) {
        switch (what) {
            case 0: return street.count;
            case 1: return street.day;
            case 2: return street.wind;
            case 3: return street.fine;
            case 4: return street.pence;
            case 5: return street.dirtOfAll();
            case 6: return street.cars;
            case 7: return street.taped;
            case 8: return street.waits;
            case 9: return speech.begun;
            case 10: return street.z;
            default: return fail(BEYOND);
        }
    }

    public int told(int k) {
        if (!within(k, 1, ERRORS)) {
            return fail(BEYOND);
        }
        return errors[k];
    }

    // ---- helpers of the acts

    /** Counts an ERROR as told. A VOICE or z may be a like number, so answers are not looked at for this. */
    private int fail(int error) {
        errors[LOW - error]++;
        return error;
    }

    private static boolean within(int v, int least, int most) {
        return least <= v && v <= most;
    }

    private static int mostOfYard(int what) {
        if (what == 0) {
            return MOST_DIRT;
        }
        return what == 1 ? 1 : MOST_BOLD;
    }

    private static int mostOfStreet(int what) {
        if (what == 0) {
            return MOST_WIND;
        }
        return what == 1 ? MOST_FINE : MOST_PENCE;
    }

    private static boolean isUnder(int kind, int above) {
        int k = kind;
        for (int i = 0; i < KIND_ABOVE.length && k >= 0; i++) {
            if (k == above) {
                return true;
            }
            k = KIND_ABOVE[k];
        }
        return false;
    }

    private int dirtOnceSwept(int side) {
        thought.thinkOf(street);
        thought.sweep(0, thought.count, 1 << side);
        return thought.dirtOfAll();
    }

    private boolean staysBelow(int v, int k) {
        thought.thinkOf(street);
        for (int n = 1; n <= 28; n++) {
            int signed = thought.day % k == 0 ? BOTH_SIDES : 0;
            thought.passPart(0, thought.count, signed);
            if (thought.firstWith(v) >= 0) {
                return false;
            }
        }
        return true;
    }

    private int dirtWithout(int towed, int yard, int n) {
        thought.thinkOf(street);
        thought.cars &= ~towed;
        return thought.dirtBehind(n, yard);
    }

    /** The higher CAR goes outside, so that the sets come in order and the first that will do is the least. */
    private int leastPairToTow(int yard, int v, int n) {
        for (int high = 1; high < street.count; high++) {
            for (int low = 0; low < high; low++) {
                int pair = 1 << high | 1 << low;
                if ((street.cars & pair) == pair && dirtWithout(pair, yard, n) < v) {
                    return pair;
                }
            }
        }
        return 0;
    }

    private boolean liesAs(int sheet) {
        for (int yard = 0; yard < thought.count; yard++) {
            if (numbers[sheet][yard] != thought.dirt[yard]) {
                return false;
            }
        }
        return true;
    }

    /** The greatest number that divides both; all, which is above 0, is one that divides 0. */
    private static int commonPart(int part, int all) {
        for (int d = all; d > 1; d--) {
            if (part % d == 0 && all % d == 0) {
                return d;
            }
        }
        return 1;
    }

    private static boolean isSheet(int sheet) {
        return within(sheet, 0, SHEETS - 1);
    }

    private static boolean isWidth(int bits) {
        return bits == MISSING || bits == 8 || bits == 16 || bits == 32;
    }

    private static int lowestBits(int bits, int v) {
        if (bits == 8) {
            return (byte) v;
        }
        return bits == 16 ? (short) v : v;
    }

    /** By a difference, as from + n could wrap. */
    private boolean stand(int sheet, int from, int n) {
        return n >= 0 && from >= 0 && n <= sizeOfSheet[sheet] - from;
    }

    // ---- the street

    /** All that an IMAGE keeps. */
    private static final class Street {
        private final YardKind[] kinds;
        private final int[] kind = new int[MOST_YARDS];
        private final int[] m = new int[MOST_YARDS];
        private final int[] dirt = new int[MOST_YARDS];
        private final int[] bold = new int[MOST_YARDS];
        private int count;
        /** As a set, as many answers are. */
        private int cars;
        private int day;
        private int wind;
        private int fine = 11;
        private int pence;
        private Law leaves;
        private Law signs;
        private final int[] tape = new int[MOST_TAPE];
        private int taped;
        private final int[] waiting = new int[MOST_WAITING];
        private int waits;
        private int z = 1;

        Street(YardKind[] kinds, Law leaves, Law signs) {
            this.kinds = kinds;
            this.leaves = leaves;
            this.signs = signs;
        }

        /** Takes over what bears on DAYS; laws never change, so they are shared. */
        void thinkOf(Street other) {
            System.arraycopy(other.kind, 0, kind, 0, MOST_YARDS);
            System.arraycopy(other.m, 0, m, 0, MOST_YARDS);
            System.arraycopy(other.dirt, 0, dirt, 0, MOST_YARDS);
            System.arraycopy(other.bold, 0, bold, 0, MOST_YARDS);
            count = other.count;
            cars = other.cars;
            day = other.day;
            wind = other.wind;
            fine = other.fine;
            pence = other.pence;
            leaves = other.leaves;
            signs = other.signs;
        }

        void keepAllOf(Street other) {
            thinkOf(other);
            System.arraycopy(other.tape, 0, tape, 0, MOST_TAPE);
            taped = other.taped;
            System.arraycopy(other.waiting, 0, waiting, 0, MOST_WAITING);
            waits = other.waits;
            z = other.z;
        }

        boolean has(int yard) {
            return within(yard, 0, count - 1);
        }

        void shape(int yard, int km) {
            kind[yard] = km / 10;
            m[yard] = km % 10;
        }

        YardKind kindOf(int yard) {
            return kinds[kind[yard]];
        }

        int carOf(int yard) {
            return cars >> yard & 1;
        }

        void park(int yard, boolean there) {
            cars = there ? cars | 1 << yard : cars & ~(1 << yard);
        }

        int fallsNow(int yard) {
            int v = leaves.give(yard, day % 30, dirt[yard]);
            return Math.max(0, kindOf(yard).fallen(v, m[yard], carOf(yard), day, wind));
        }

        int takesNow(int yard) {
            return kindOf(yard).taken(dirt[yard]);
        }

        int signOf(int side, int when) {
            return signs.give(side, when % 7, when % 30);
        }

        int signedNow() {
            return signOf(LEFT, day) | signOf(RIGHT, day) << 1;
        }

        int dirtOfAll() {
            int sum = 0;
            for (int yard = 0; yard < count; yard++) {
                sum += dirt[yard];
            }
            return sum;
        }

        int greatestDirt() {
            int greatest = 0;
            for (int yard = 0; yard < count; yard++) {
                greatest = Math.max(greatest, dirt[yard]);
            }
            return greatest;
        }

        /** The first YARD with so much DIRT or more; -1: none. */
        int firstWith(int v) {
            for (int yard = 0; yard < count; yard++) {
                if (dirt[yard] >= v) {
                    return yard;
                }
            }
            return -1;
        }

        void passAll(int n) {
            for (int i = 0; i < n; i++) {
                passPart(0, count, signedNow());
            }
        }

        /** Only one OPPOSITE bears on a YARD's DIRT, so no more than their pair is worked out. */
        int dirtBehind(int n, int yard) {
            int first = yard - yard % 2;
            int end = Math.min(first + 2, count);
            for (int i = 0; i < n; i++) {
                passPart(first, end, signedNow());
            }
            return dirt[yard];
        }

        /** A DAY of the YARDS from first (a LEFT one) up to end, the sides in the set being SIGNED. */
        void passPart(int first, int end, int signed) {
            for (int yard = first; yard < end; yard++) {
                dirt[yard] = Math.min(MOST_DIRT, dirt[yard] + fallsNow(yard));
            }
            for (int right = first + 1; right < end; right += 2) {
                int blown = dirt[right] * wind / 20;
                dirt[right] -= blown;
                dirt[right - 1] = Math.min(MOST_DIRT, dirt[right - 1] + blown);
            }
            sweep(first, end, signed);
            day++;
        }

        void sweep(int first, int end, int signed) {
            for (int side = LEFT; side <= RIGHT; side++) {
                if ((signed >> side & 1) == 0) {
                    continue;
                }
                int staying = signed == BOTH_SIDES ? cars : cars & ~goers(side);
                for (int yard = first + side; yard < end; yard += 2) {
                    if ((staying >> yard & 1) == 1) {
                        pence = Math.min(MOST_PENCE, pence + fine);
                    } else {
                        dirt[yard] -= kindOf(yard).taken(dirt[yard]);
                    }
                }
            }
        }

        /** The CARS of a side that go, were it alone SIGNED, as a set. */
        private int goers(int side) {
            int places = 0;
            for (int yard = 1 - side; yard < count; yard += 2) {
                places += 1 - carOf(yard);
            }
            int gone = 0;
            for (int yard = side; yard < count; yard += 2) {
                if (carOf(yard) == 1 && bold[yard] < fine && places > 0) {
                    gone |= 1 << yard;
                    places--;
                }
            }
            return gone;
        }

        int stayers(int side) {
            int ofSide = 0;
            for (int yard = side; yard < count; yard += 2) {
                ofSide |= 1 << yard;
            }
            return cars & ofSide & ~goers(side);
        }

        void drawWindAndCar() {
            wind = drawn() % (MOST_WIND + 1);
            int drawn = drawn();
            if (count > 0) {
                cars ^= 1 << drawn % count;
            }
        }

        private int drawn() {
            z = z * 1103515245 + 12345;
            return z >>> 8;
        }
    }

    // ---- laws

    /** What a USE gives. Its TEXT is kept as steps for a stack, as it is asked far oftener than read. */
    private static final class Law {
        private final int use;
        /** Numbers stand as they are, NAMES as -1, -2, -3, signs as their byte below 0. */
        private final int[] steps;
        private final int[] stack;

        Law(int use, int[] steps) {
            this.use = use;
            this.steps = steps;
            this.stack = new int[steps.length];
        }

        int give(int a, int b, int c) {
            if (steps.length == 0) {
                return withoutText(a, b);
            }
            int high = 0;
            for (int i = 0; i < steps.length; i++) {
                int step = steps[i];
                if (step >= -3 && high < stack.length) {
                    stack[high] = step >= 0 ? step : (step == -1 ? a : (step == -2 ? b : c));
                    high++;
                } else if (step == -'!' && high >= 1) {
                    stack[high - 1] = stack[high - 1] == 0 ? 1 : 0;
                } else if (high >= 2) {
                    high--;
                    stack[high - 1] = joined(-step, stack[high - 1], stack[high]);
                }
            }
            return Math.max(0, Math.min(use == LEAVES ? 99 : 1, stack[0]));
        }

        private int withoutText(int a, int b) {
            if (use == LEAVES) {
                return 3;
            }
            return (a == LEFT && b == 1) || (a == RIGHT && b == 4) ? 1 : 0;
        }

        private static int joined(int sign, int a, int b) {
            switch (sign) {
                case '+': return a + b;
                case '-': return a - b;
                case '*': return a * b;
                case '/': return b == 0 ? 0 : a / b;
                case '%': return b == 0 ? 0 : a % b;
                case '<': return a < b ? 1 : 0;
                case '=': return a == b ? 1 : 0;
                case '>': return a > b ? 1 : 0;
                case '&': return a != 0 && b != 0 ? 1 : 0;
                default: return a != 0 || b != 0 ? 1 : 0;
            }
        }
    }

    /** Reads TEXTS. It never goes back, so where it can't go on is the FAULT. */
    private static final class Reader {
        private static final int MOST_OPEN = 5;
        private static final int MOST_DIGITS = 4;
        private static final int COMPARING = 2;
        private static final int HIGHEST = 5;

        private final int[] bytes = new int[MOST_TAPE];
        private final int[] steps = new int[MOST_TAPE];
        private int size;
        private int at;
        private int written;
        private int use;

        /** -1: there is none. */
        int faultIn(int[] tape, int length, int ofUse) {
            System.arraycopy(tape, 0, bytes, 0, length);
            size = length;
            use = ofUse;
            at = 0;
            written = 0;
            return reads(0, 0) && at == size ? -1 : at;
        }

        Law lawRead() {
            int[] exact = new int[written];
            System.arraycopy(steps, 0, exact, 0, written);
            return new Law(use, exact);
        }

        /** T, A, B, S, P are levels 0 to 4, each made of the next with its signs between; Q is level 5. */
        private boolean reads(int level, int open) {
            if (level >= HIGHEST) {
                return readsOne(open);
            }
            if (!reads(level + 1, open)) {
                return false;
            }
            int most = level == COMPARING ? 1 : MOST_TAPE;
            for (int i = 0; i < most && levelOf(next()) == level; i++) {
                int sign = next();
                at++;
                if (!reads(level + 1, open)) {
                    return false;
                }
                write(-sign);
            }
            return true;
        }

        private boolean readsOne(int open) {
            int sign = next();
            if (isDigit(sign)) {
                readNumber();
                return true;
            }
            int name = nameOf(sign);
            if (name >= 0) {
                at++;
                write(-1 - name);
                return true;
            }
            if ((sign != '!' && sign != '(') || open >= MOST_OPEN) {
                return false;
            }
            at++;
            return sign == '!' ? readsDenied(open + 1) : readsClosed(open + 1);
        }

        private boolean readsDenied(int open) {
            if (!readsOne(open)) {
                return false;
            }
            write(-'!');
            return true;
        }

        private boolean readsClosed(int open) {
            if (!reads(0, open) || next() != ')') {
                return false;
            }
            at++;
            return true;
        }

        private void readNumber() {
            int number = 0;
            for (int i = 0; i < MOST_DIGITS && isDigit(next()); i++) {
                number = number * 10 + next() - '0';
                at++;
            }
            write(number);
        }

        /** -1: no more bytes. */
        private int next() {
            return at < size ? bytes[at] : -1;
        }

        private void write(int step) {
            if (written < steps.length) {
                steps[written] = step;
                written++;
            }
        }

        private static boolean isDigit(int sign) {
            return within(sign, '0', '9');
        }

        private int nameOf(int sign) {
            String names = use == LEAVES ? "ydx" : "sde";
            return sign < 0 ? -1 : names.indexOf((char) sign);
        }

        private static int levelOf(int sign) {
            switch (sign) {
                case '|': return 0;
                case '&': return 1;
                case '<':
                case '=':
                case '>': return COMPARING;
                case '+':
                case '-': return 3;
                case '*':
                case '/':
                case '%': return 4;
                default: return -1;
            }
        }
    }

    // ---- kinds of yards

    /** Whose VOICE speaks, and THE TRACE of it. */
    private static final class Speech {
        private final int[] bodies = new int[MOST_TRACE];
        private int begun;
        private int number;
        private int m;

        void open(int yard, int mOfYard) {
            number = yard;
            m = mOfYard;
            begun = 0;
        }

        void begin(int body) {
            if (begun < bodies.length) {
                bodies[begun] = body;
                begun++;
            }
        }
    }

    /** KIND 0, above all. What FALLS may come out below 0 here; the street holds it. */
    private static class YardKind {
        int fallen(int v, int m, int car, int day, int wind) {
            return v;
        }

        int taken(int x) {
            return x;
        }

        int falls(Speech in, int x) {
            in.begin(10);
            return x + in.number;
        }

        int moves(Speech in, int x) {
            in.begin(11);
            return falls(in, x) * 2;
        }

        int sweeps(Speech in, int x) {
            in.begin(12);
            return x - in.m;
        }

        int blocks(Speech in, int x) {
            in.begin(13);
            return moves(in, x) ^ sweeps(in, x);
        }
    }

    /** KIND 1. */
    private static class SweptKind extends YardKind {
        @Override
        int fallen(int v, int m, int car, int day, int wind) {
            return v - m % 3;
        }

        @Override
        int taken(int x) {
            return x - x % 2;
        }

        @Override
        int falls(Speech in, int x) {
            in.begin(20);
            return super.falls(in, x) * 3;
        }
    }

    /** KIND 2. */
    private static class CoveredKind extends YardKind {
        @Override
        int fallen(int v, int m, int car, int day, int wind) {
            return v / 2;
        }

        @Override
        int taken(int x) {
            return x / 2;
        }

        @Override
        int moves(Speech in, int x) {
            in.begin(30);
            return super.moves(in, x) - sweeps(in, 1);
        }
    }

    /** KIND 3. */
    private static class WaitedKind extends YardKind {
        @Override
        int fallen(int v, int m, int car, int day, int wind) {
            return v + car;
        }

        @Override
        int taken(int x) {
            return Math.min(x, 50);
        }

        @Override
        int sweeps(Speech in, int x) {
            in.begin(40);
            return -super.sweeps(in, x);
        }
    }

    /** KIND 4. */
    private static final class DoubledKind extends SweptKind {
        @Override
        int fallen(int v, int m, int car, int day, int wind) {
            return 2 * super.fallen(v, m, car, day, wind);
        }

        @Override
        int taken(int x) {
            return Math.min(super.taken(x), 99);
        }

        @Override
        int blocks(Speech in, int x) {
            in.begin(50);
            return super.blocks(in, x) - falls(in, 2);
        }
    }

    /** KIND 5. */
    private static final class EmptyKind extends CoveredKind {
        @Override
        int fallen(int v, int m, int car, int day, int wind) {
            return super.fallen(v, m, car, day, wind) + (day % 7 == 0 ? m : 0);
        }

        @Override
        int taken(int x) {
            return Math.min(super.taken(x) + 10, x);
        }

        @Override
        int moves(Speech in, int x) {
            in.begin(60);
            return super.moves(in, x + 1);
        }
    }

    /** KIND 6. */
    private static final class BlownKind extends WaitedKind {
        @Override
        int fallen(int v, int m, int car, int day, int wind) {
            return super.fallen(v, m, car, day, wind) + wind;
        }

        @Override
        int sweeps(Speech in, int x) {
            in.begin(70);
            return super.sweeps(in, x) ^ in.number;
        }

        @Override
        int blocks(Speech in, int x) {
            in.begin(71);
            return moves(in, x) - super.blocks(in, x);
        }
    }
}
