import java.lang.reflect.Method;
import java.util.Arrays;
import java.util.HashMap;
import java.util.Map;
import java.util.Random;
import java.util.TreeSet;

/** Promises 1 to 42: runs of calls by lots, each answer held against the model's, and what is told now and then. */
public final class ModelTest {
    private static final int RUNS = 1000, CALLS = 512, TOLD = 5;
    private static final String LETTERS = "bsqctw";
    private static final int[] FAR_AND_NEAR = {Integer.MIN_VALUE, -1, 0, 1, 6, 41, Integer.MAX_VALUE};
    // A name stands as often as it should come.
    private static final String[] NAMES = (
        "row row lay lay at tear copy copy mean text put put fault town bed bed mark mark cross cross "
        + "night night night night inspect inspect inspect thin thin swap swap undo keep on "
        + "then then when when least least round brings brings marry rather rather "
        + "thicks thicks kinds kinds test test duel odds odds mid mid lots lots "
        + "asked upper lower count finding findings digest").split(" ");

    private final Map<String, Method> methods = new HashMap<>();
    private final Map<String, Integer> answered = new HashMap<>();
    private Random random;
    private BolsterBeds x;
    private Model model;
    private int run;
    private int made;
    private boolean wrong;

    public static void main(String[] args) throws ReflectiveOperationException {
        ModelTest test = new ModelTest();
        for (Method m : BolsterBeds.class.getDeclaredMethods()) {
            test.methods.put(m.getName(), m);
        }
        for (int seed = 1; seed <= RUNS; seed++) {
            test.oneRun(seed);
        }
        for (String name : NAMES) {
            Check.due("calls of " + name + " that answered well", test.answered.getOrDefault(name, 0) > 100 ? 1 : 0, 1);
        }
        for (String name : new TreeSet<>(Arrays.asList(NAMES))) {
            test.farAndNear(name, true);
            test.farAndNear(name, false);
        }
        Check.end("ModelTest");
    }

    private void begin(int number) {
        random = new Random(number);
        x = new BolsterBeds();
        model = new Model();
        run = number;
        made = 0;
        wrong = false;
    }

    /** A call by each of these numbers at each place, with a town, rows and a kept town, or without any. */
    private void farAndNear(String name, boolean withTown) throws ReflectiveOperationException {
        int[] a = new int[methods.get(name).getParameterCount()];
        made = CALLS;
        for (int number = 0; number < Math.pow(FAR_AND_NEAR.length, a.length); number++) {
            if (made >= CALLS) {
                begin(number);
                if (withTown) {
                    writeTown(1);
                    both("row", 1, 6);
                    both("row", 0, 2);
                    both("keep", 1);
                }
            }
            int rest = number;
            for (int k = 0; k < a.length; k++) {
                a[k] = FAR_AND_NEAR[rest % FAR_AND_NEAR.length];
                rest /= FAR_AND_NEAR.length;
            }
            both(name, a);
        }
    }

    private void oneRun(int seed) throws ReflectiveOperationException {
        begin(seed);
        // A few runs go on without beds, or with a text by chance.
        if (seed % 10 != 0) {
            writeTown(random.nextInt(4));
        }
        while (made < CALLS && !wrong) {
            int lot = random.nextInt(100);
            if (lot == 0 && made < CALLS - 70) {
                writeTown(random.nextInt(4));
            } else if (lot < 12 && made < CALLS - 70) {
                writePairs();
            } else {
                String name = NAMES[random.nextInt(NAMES.length)];
                both(name, arguments(name));
            }
        }
    }

    /** The same call of both, unless all calls are made. */
    private void both(String name, int... a) throws ReflectiveOperationException {
        if (made >= CALLS) {
            return;
        }
        Object[] boxed = new Object[a.length];
        StringBuilder said = new StringBuilder("run " + run + ", call " + made + ": " + name + "(");
        for (int k = 0; k < a.length; k++) {
            boxed[k] = a[k];
            said.append(k == 0 ? "" : ", ").append(a[k]);
        }
        said.append(")");
        long got = ((Number) methods.get(name).invoke(x, boxed)).longValue();
        long want = model.call(name, a);
        made++;
        if (want >= 0) {
            answered.merge(name, 1, Integer::sum);
        }
        due(said.toString(), got, want);
        if (random.nextInt(4) == 0 && made + TOLD <= CALLS) {
            told(said.toString());
        }
    }

    private void told(String said) {
        made += TOLD;
        due(said + ", then asked()", x.asked(), model.asked);
        due(said + ", then upper()", x.upper(), model.upper);
        due(said + ", then lower()", x.lower(), model.lower);
        due(said + ", then finding()", x.finding(), model.finding);
        due(said + ", then digest()", x.digest(), model.call("digest", of()));
    }

    private void due(String said, long got, long want) {
        wrong |= got != want;
        Check.due(said, got, want);
    }

    private int figure() {
        return random.nextInt(10);
    }

    private String town() {
        StringBuilder s = new StringBuilder(" ".repeat(random.nextInt(2)));
        s.append('n').append(figure()).append(figure()).append(figure()).append(figure());
        s.append(1 + random.nextInt(9));
        int beds = 1 + random.nextInt(6);
        for (int i = 0; i < beds; i++) {
            s.append(" ".repeat(random.nextInt(3)));
            s.append(LETTERS.charAt(random.nextInt(6))).append(figure()).append(figure()).append(figure());
        }
        s.append(" ".repeat(random.nextInt(3)));
        return s.toString();
    }

    private void writeTown(int t) throws ReflectiveOperationException {
        String s = town();
        if (random.nextInt(4) == 0) {
            int i = random.nextInt(s.length());
            String signs = "n0 b9x/:~" + (char) 233;
            String sign = "" + signs.charAt(random.nextInt(signs.length()));
            s = s.substring(0, i) + (random.nextBoolean() ? "" : sign) + s.substring(i + 1);
        }
        both("text", t, Math.min(60, s.length()));
        for (int i = 0; i < s.length(); i++) {
            if (s.charAt(i) != ' ') {
                both("put", t, i, s.charAt(i));
            }
        }
        both("fault", t);
        both("town", t);
    }

    /** Pairs of what does cross, most of the time, so that something fits. */
    private void writePairs() throws ReflectiveOperationException {
        int r = random.nextInt(6);
        int pairs = random.nextInt(4);
        int i = random.nextInt(6);
        both("row", r, 2 * pairs);
        for (int k = 0; k < pairs; k++) {
            int m = random.nextInt(100);
            int crossed = (int) model.call("cross", new int[] {i, m});
            both("lay", r, 2 * k, random.nextInt(15) == 0 ? near(0, 99) : m);
            both("lay", r, 2 * k + 1, random.nextInt(8) == 0 ? near(0, 30) : Math.max(0, crossed));
        }
        both(new String[] {"thicks", "kinds", "test"}[random.nextInt(3)], i, r);
    }

    /** Mostly a number from least to most, sometimes one by it, seldom one far off. */
    private int near(int least, int most) {
        int lot = random.nextInt(40);
        if (lot == 0) {
            return random.nextInt();
        }
        if (lot == 1) {
            return random.nextBoolean() ? Integer.MIN_VALUE : Integer.MAX_VALUE;
        }
        return lot < 5 ? least - 1 + random.nextInt(most - least + 3) : least + random.nextInt(most - least + 1);
    }

    private int[] of(int... a) {
        return a;
    }

    private int[] arguments(String name) {
        switch (name) {
            case "row": return of(near(0, 5), random.nextBoolean() ? near(0, 40) : near(0, 5));
            case "lay": return of(near(0, 5), near(0, 5), value());
            case "at": return of(near(0, 5), near(0, 5));
            case "copy": return of(near(0, 5), near(0, 3), near(0, 5), near(0, 3), near(0, 4));
            case "text": return of(near(0, 3), near(0, 60));
            case "put": return of(near(0, 3), near(0, 30), random.nextBoolean() ? near(48, 57) : near(-130, 260));
            case "fault": case "town": return of(near(0, 3));
            case "bed": return of(near(0, 5), near(0, 7));
            case "mark": return of(near(0, 5), near(1, 5));
            case "cross": return of(near(0, 5), near(0, 99));
            case "inspect": case "thin": case "when": return of(near(0, 5));
            case "swap": return of(near(0, 5), near(0, 5));
            case "undo": return of(random.nextBoolean() ? near(0, 40) : deeds() - random.nextInt(3));
            case "keep": case "on": return of(near(0, 2));
            case "then": case "least": return of(near(0, 5), random.nextBoolean() ? near(0, 40) : near(0, 6));
            case "round": return of(random.nextInt(3) == 0 ? near(0, 4) : near(0, 3), near(0, 5));
            case "thicks": case "kinds": case "test": return of(near(0, 5), near(0, 5));
            case "duel": return of(near(0, 4));
            case "odds": return of(near(0, 6), near(0, 12));
            case "mid": return of(near(0, 12));
            case "lots": return of(random.nextBoolean() ? near(1, 20) : near(1, 4), near(1, 2147483645));
            case "count": return of(near(0, 10));
            case "findings": return of(near(1, 5));
            case "tear": case "mean": case "brings": case "marry": return of(near(0, 5));
            default: return of();
        }
    }

    private int deeds() {
        return (int) model.call("count", of(2));
    }

    private int value() {
        int lot = random.nextInt(3);
        return lot == 0 ? near(0, 5) : lot == 1 ? BolsterBeds.NONE : near(-100, 100);
    }
}
