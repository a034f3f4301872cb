import java.lang.reflect.Method;
import java.util.ArrayList;
import java.util.Arrays;
import java.util.HashMap;
import java.util.List;
import java.util.Map;
import java.util.Random;

/** Long runs of calls by chance (of fixed seeds; as many as the argument says), compared with the Model's. */
public final class ModelTest {
    private static final int RUNS = 150;
    private static final int CALLS = 512;
    private static final int WRONG_ENOUGH = 20;

    private static final Map<String, Method> methods = new HashMap<>();

    private final Random chance;
    private final int run;
    private final SweptRound real = new SweptRound();
    private final Model model = new Model();
    private final List<String> told = new ArrayList<>();
    private int calls;
    private boolean failed;

    private ModelTest(int run) {
        this.run = run;
        this.chance = new Random(run);
    }

    public static void main(String[] args) {
        for (Method m : SweptRound.class.getDeclaredMethods()) {
            if (java.lang.reflect.Modifier.isPublic(m.getModifiers())) {
                methods.put(m.getName(), m);
            }
        }
        int runs = args.length == 0 ? RUNS : Integer.parseInt(args[0]);
        int wrong = 0;
        for (int run = 0; run < runs && wrong < WRONG_ENOUGH; run++) {
            wrong += new ModelTest(run).differs() ? 1 : 0;
        }
        System.out.println(runs + " runs, " + wrong + " unlike the Model's");
        if (wrong > 0) {
            System.exit(1);
        }
    }

    private boolean differs() {
        int yards = chance.nextInt(13);
        for (int i = 0; i < yards; i++) {
            newYard();
        }
        while (calls < CALLS && !failed) {
            step();
        }
        return failed;
    }

    private void call(String name, long... a) {
        if (failed || calls >= CALLS) {
            return;
        }
        calls++;
        int want = model.call(name, a);
        told.add(name + Arrays.toString(a) + " " + want);
        int got = answer(name, a);
        if (got != want) {
            failed = true;
            System.out.println("run " + run + ", call " + calls + ": answered " + got + ", the Model's is " + want);
            told.subList(Math.max(0, told.size() - 12), told.size()).forEach(System.out::println);
        }
    }

    private int answer(String name, long[] a) {
        Method m = methods.get(name);
        Object[] given = new Object[a.length];
        for (int i = 0; i < a.length; i++) {
            if (m.getParameterTypes()[i] == long.class) {
                given[i] = a[i];
            } else {
                given[i] = (int) a[i];
            }
        }
        try {
            return (int) m.invoke(real, given);
        } catch (ReflectiveOperationException e) {
            throw new IllegalStateException(name + Arrays.toString(a), e);
        }
    }

    /** Within least and most as a rule, now and then an edge or beyond it. */
    private int of(int least, int most) {
        switch (chance.nextInt(40)) {
            case 0: return least - 1;
            case 1: return most + 1;
            case 2: return least;
            case 3: return most;
            case 4: return chance.nextInt(10) == 0 ? chance.nextInt() : least;
            default: return least + chance.nextInt(Math.max(1, most - least + 1));
        }
    }

    private int someYard() {
        return of(0, model.w.yards.size() - 1);
    }

    private void newYard() {
        call("yard", of(0, 69), of(0, 999), chance.nextInt(3) == 0 ? -1 : of(0, chance.nextBoolean() ? 20 : 99));
    }

    private void step() {
        int kind = chance.nextInt(100);
        if (kind < 4) {
            newYard();
        } else if (kind < 34) {
            changeStreet();
        } else if (kind < 44) {
            readText();
        } else if (kind < 74) {
            ask();
        } else if (kind < 90) {
            write();
        } else {
            keep();
        }
    }

    private void changeStreet() {
        switch (chance.nextInt(12)) {
            case 0: call("change", someYard(), 0, of(0, 999)); break;
            case 1: call("change", someYard(), 1, of(0, 1)); break;
            case 2: call("change", someYard(), 2, of(0, chance.nextBoolean() ? 20 : 99)); break;
            case 3: call("change", someYard(), of(0, 2), of(0, 99)); break;
            case 4: call("set", 0, of(0, 9)); break;
            case 5: call("set", 1, of(0, chance.nextBoolean() ? 20 : 99)); break;
            case 6: call("set", of(0, 2), of(0, chance.nextBoolean() ? 9 : 99999)); break;
            case 7: call("become", someYard(), of(0, 69)); break;
            case 8: call("days", of(1, chance.nextBoolean() ? 5 : 60)); break;
            case 9: call("loose", of(1, chance.nextBoolean() ? 5 : 40)); break;
            case 10: call("ofYard", someYard(), of(0, 6)); break;
            default: call("as", someYard(), of(0, 6));
        }
    }

    private void readText() {
        int use = chance.nextInt(2);
        String text = someTerm(use == 0 ? "ydx" : "sde", 1 + chance.nextInt(4), 4);
        if (chance.nextInt(3) == 0) {
            text = spoilt(text);
        }
        text = text.length() > 50 ? text.substring(0, 50) : text;
        for (int at = 0; at < text.length();) {
            int n = Math.min(1 + chance.nextInt(8), text.length() - at);
            long word = chance.nextLong();
            for (int i = n - 1; i >= 0; i--) {
                word = word << 8 | text.charAt(at + i);
            }
            call("feed", word, n);
            at += n;
        }
        if (chance.nextInt(8) > 0) {
            call("text", chance.nextInt(20) == 0 ? of(0, 1) : use);
        }
        call("law", of(0, 1), number(), number(), number());
    }

    private int number() {
        switch (chance.nextInt(6)) {
            case 0: return chance.nextInt();
            case 1: return chance.nextBoolean() ? Integer.MIN_VALUE : Integer.MAX_VALUE;
            case 2: return -1 - chance.nextInt(3);
            default: return chance.nextInt(40);
        }
    }

    private String someTerm(String names, int length, int depth) {
        StringBuilder s = new StringBuilder(someOne(names, depth));
        boolean compared = false;
        for (int i = 1; i < length; i++) {
            char sign = "|&<=>+-*/%+-*%".charAt(chance.nextInt(14));
            if ("<=>".indexOf(sign) >= 0) {
                sign = compared && chance.nextInt(10) > 0 ? '+' : sign;
                compared = true;
            }
            compared &= "|&".indexOf(sign) < 0;
            s.append(sign).append(someOne(names, depth));
        }
        return s.toString();
    }

    private String someOne(String names, int depth) {
        int kind = chance.nextInt(depth > 0 ? 10 : 7);
        if (kind < 4) {
            return names.substring(kind % 3, kind % 3 + 1);
        }
        if (kind < 7) {
            return "" + chance.nextInt(chance.nextInt(5) == 0 ? 12000 : 12);
        }
        if (kind == 7) {
            return "!" + someOne(names, depth - chance.nextInt(2));
        }
        return "(" + someTerm(names, 1 + chance.nextInt(3), depth - chance.nextInt(2)) + ")";
    }

    private String spoilt(String text) {
        int at = chance.nextInt(text.length() + 1);
        String signs = "|&<=>+-*/%!()0123456789ydxse ^~";
        char sign = signs.charAt(chance.nextInt(signs.length()));
        int skip = Math.min(text.length(), at + chance.nextInt(2));
        return chance.nextInt(3) == 0 ? text.substring(0, at) : text.substring(0, at) + sign + text.substring(skip);
    }

    private void ask() {
        int v = of(1, chance.nextBoolean() ? 60 : 999);
        switch (chance.nextInt(14)) {
            case 0: call("then", of(0, 60), someYard()); break;
            case 1: call("worst", of(300, 999), of(0, 1)); break;
            case 2: call("stay"); break;
            case 3: call("side", of(0, 1)); break;
            case 4: call("seldom", v); break;
            case 5: call("leastFine", of(0, 1)); break;
            case 6:
            case 7: call("tow", someYard(), v, of(0, chance.nextBoolean() ? 4 : 20)); break;
            case 8: call("broom", of(0, 30), of(0, 1)); break;
            case 9: whoStoodThere(); break;
            case 10: call("paid", of(0, 60)); break;
            case 11: call("bell", of(0, 60)); break;
            case 12: call("odds", someYard(), v, of(0, chance.nextBoolean() ? 5 : 60), of(0, 1)); break;
            default: call("sign", of(0, 1), of(0, 99));
        }
    }

    private void whoStoodThere() {
        int fine = chance.nextInt(40);
        int sheet = chance.nextInt(4);
        Model.World then = model.w.were(o -> o.fine = fine).behind(1);
        if (chance.nextInt(4) > 0) {
            call("sheet", sheet, chance.nextInt(5) == 0 ? 8 : 16, then.yards.size());
            for (int i = 0; i < then.yards.size(); i++) {
                call("put", sheet, i, then.yards.get(i).dirt);
            }
        }
        call("fits", of(0, 3), of(0, 1));
        call("fits", sheet, of(0, 1));
    }

    private void write() {
        int sheet = of(0, 3);
        switch (chance.nextInt(9)) {
            case 0: call("sheet", sheet, new int[] {0, 8, 16, 32, 32, 16, 8, 9}[chance.nextInt(8)], of(0, 40)); break;
            case 1: call("put", sheet, of(0, 39), number()); break;
            case 2: call("put", sheet, of(0, 11), of(0, chance.nextBoolean() ? 255 : 999)); break;
            case 3: call("move", sheet, of(0, 9), of(0, 3), of(0, 9), of(0, 9)); break;
            case 4: call("dirts", sheet); break;
            case 5: judged(); break;
            case 6: call("voice", someYard(), of(0, 3), number()); break;
            case 7: call("trace", of(0, 9)); break;
            default: call("told", of(1, 5));
        }
    }

    private void judged() {
        int sheet = chance.nextInt(4);
        int size = model.w.yards.size() + (chance.nextInt(4) == 0 ? chance.nextInt(3) - 1 : 0);
        if (chance.nextInt(4) > 0) {
            call("sheet", sheet, 8, size);
            for (int i = 0; i < Math.min(size, model.w.yards.size()); i++) {
                int car = model.w.yards.get(i).car ? 1 : 0;
                call("put", sheet, i, chance.nextInt(20) == 0 ? number() : car);
            }
        }
        call("judge", sheet);
    }

    private void keep() {
        switch (chance.nextInt(10)) {
            case 0: call("image"); break;
            case 1: call("restore"); break;
            case 2: call("seed", number()); break;
            case 3: tellSome(); break;
            case 4: call("tell", number()); break;
            case 5: call("check"); break;
            default: call("count", of(0, 10));
        }
    }

    private void tellSome() {
        int right = chance.nextInt(8);
        for (int n = 1; n <= right; n++) {
            call("tell", model.w.behind(n).all());
        }
        if (chance.nextBoolean()) {
            call("tell", number());
        }
        call("check");
    }
}
