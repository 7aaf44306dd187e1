import java.lang.reflect.InvocationTargetException;
import java.lang.reflect.Method;
import java.lang.reflect.Modifier;
import java.util.ArrayList;
import java.util.HashMap;
import java.util.List;
import java.util.Map;
import java.util.Random;

/** Runs of calls drawn by fixed seeds, on StubBench and on the Oracle: every answer and every exception must agree. */
public final class FuzzTest {
    private static final int CALLS = 150;

    private final Random random;
    private final StubBench bench = new StubBench();
    private final Oracle oracle = new Oracle();
    private final List<String> run = new ArrayList<>();

    private FuzzTest(long seed) {
        random = new Random(seed);
    }

    public static void main(String[] args) throws Exception {
        int runs = args.length > 0 ? Integer.parseInt(args[0]) : 400;
        long first = args.length > 1 ? Long.parseLong(args[1]) : 1;
        List<Method> methods = face();
        List<int[]> nice = niceLoads();
        Map<String, int[]> tally = new HashMap<>();
        int wrong = 0;
        for (long seed = first; seed < first + runs && wrong < 5; seed++) {
            if (!new FuzzTest(seed).play(methods, nice, tally)) {
                wrong++;
                System.out.println("seed " + seed);
            }
        }
        for (Method m : methods) {
            int[] both = tally.getOrDefault(m.getName(), new int[2]);
            if (both[0] == 0 || args.length > 2) {
                System.out.println(m.getName() + ": answered " + both[0] + ", threw " + both[1]);
            }
            if (both[0] == 0 && args.length == 0) {
                wrong++;
            }
        }
        System.out.println(wrong == 0 ? "all runs agree" : "runs do not agree");
        if (wrong != 0) {
            System.exit(1);
        }
    }

    private static List<Method> face() {
        List<Method> all = new ArrayList<>();
        for (Method m : StubBench.class.getDeclaredMethods()) {
            if (Modifier.isPublic(m.getModifiers())) {
                all.add(m);
            }
        }
        all.sort((a, b) -> a.getName().compareTo(b.getName()));
        return all;
    }

    /** LOADS with PLACES that are fractions: few of all are so. */
    private static List<int[]> niceLoads() {
        List<int[]> all = new ArrayList<>();
        for (int d = 1; d <= 20; d++) {
            for (int a = 1; a <= 99; a++) {
                for (int b = -99; b <= 99; b++) {
                    long under = (long) a * d * ((a - d) * (a - d) + b * b);
                    long root = Math.round(Math.sqrt(under));
                    if (root * root == under) {
                        all.add(new int[] {a, b, d});
                    }
                }
            }
        }
        return all;
    }

    private boolean play(List<Method> methods, List<int[]> nice, Map<String, int[]> tally) throws Exception {
        for (int i = 0; i < CALLS; i++) {
            Method method = choose(methods);
            Object[] given = arguments(method, nice);
            Method twin = Oracle.class.getDeclaredMethod(method.getName(), method.getParameterTypes());
            String got = call(bench, method, given);
            String due = call(oracle, twin, given);
            String told = method.getName() + java.util.Arrays.toString(given);
            run.add(told + " -> " + got);
            tally.computeIfAbsent(method.getName(), n -> new int[2])[due.startsWith("throws.") ? 1 : 0]++;
            if (!got.equals(due)) {
                System.out.println(String.join("\n", run) + "\n  but due is " + due);
                return false;
            }
        }
        return true;
    }

    private Method choose(List<Method> methods) {
        // The ELEMENTS come and go, so that some are there, and not always 4.
        int dice = random.nextInt(100);
        String wanted = dice < 10 ? "add" : dice < 15 ? "load" : dice < 17 ? "drop" : dice < 19 ? "build" : null;
        for (Method m : methods) {
            if (m.getName().equals(wanted)) {
                return m;
            }
        }
        return methods.get(random.nextInt(methods.size()));
    }

    private static String call(Object on, Method method, Object[] given) throws Exception {
        try {
            method.setAccessible(true);
            return String.valueOf(method.invoke(on, given));
        } catch (InvocationTargetException e) {
            if (e.getCause() instanceof AssertionError) {
                throw e;
            }
            return "throws." + e.getCause().getClass().getSimpleName();
        }
    }

    private Object[] arguments(Method method, List<int[]> nice) {
        Class<?>[] types = method.getParameterTypes();
        Object[] given = new Object[types.length];
        for (int i = 0; i < types.length; i++) {
            given[i] = types[i] == boolean.class ? (Object) random.nextBoolean() : (Object) number(-1, 5);
        }
        if (random.nextInt(60) == 0) {
            return given;
        }
        switch (method.getName()) {
            case "load": putLoad(given, nice); break;
            case "limit":
                given[0] = number(0, 20);
                given[1] = number(1, 21);
                break;
            case "add": case "trim":
                given[0] = method.getName().equals("add") ? number(0, 5) : number(0, 4);
                putTangent(given, 1);
                break;
            case "half": case "times": case "greatest": putTangent(given, 0); break;
            case "longer": case "together": putTangent(given, 0); putTangent(given, 2); break;
            case "parts": case "isWithin": given[0] = (Boolean) given[1] ? number(-11, 12) : number(1, 4); break;
            case "ways": case "stub": case "escape": case "rescue": case "three": case "ofThree":
                given[0] = mark();
                putTangent(given, 2);
                if (method.getName().endsWith("hree")) {
                    given[4] = random.nextInt(3) == 0 ? number(-100, 101) : number(-3, 4);
                    given[5] = random.nextInt(3) == 0 ? number(0, 22) : number(1, 4);
                }
                break;
            case "split":
                given[0] = number(0, 3);
                putTangent(given, 1);
                break;
            case "exact": given[0] = number(1, 13); given[1] = number(-1, 9); break;
            case "tuned": given[0] = number(1, 13); break;
            case "filter": given[0] = number(1, 4); break;
            case "circle":
                given[0] = mark();
                given[2] = number(0, 14);
                given[3] = random.nextBoolean() ? number(0, 4) : number(-1, 101);
                given[4] = number(0, 22);
                break;
            case "rim": given[0] = mark(); given[2] = number(0, 14); break;
            case "count": given[0] = number(0, 11); break;
            case "keep": case "bring": given[0] = number(0, 4); break;
            default:
                if (given.length > 0 && types[0] == int.class && random.nextBoolean()) {
                    given[0] = mark();
                }
                break;
        }
        return given;
    }

    private int number(int from, int to) {
        int dice = random.nextInt(400);
        if (dice == 0) {
            return Integer.MIN_VALUE;
        }
        if (dice == 1) {
            return Integer.MAX_VALUE;
        }
        return from + random.nextInt(to - from);
    }

    private int mark() {
        return random.nextInt(10) == 0 ? number(-1, 6) : random.nextInt(oracle.elements.size() + 1);
    }

    private void putTangent(Object[] given, int at) {
        int dice = random.nextInt(20);
        if (dice == 0) {
            given[at] = number(-14, 15);
            given[at + 1] = number(-2, 15);
            return;
        }
        List<Frac> some = Oracle.within(dice < 12 ? 2 + dice % 3 : 12);
        Frac t = some.get(random.nextInt(some.size()));
        given[at] = t.upper.intValue();
        given[at + 1] = t.lower.intValue();
    }

    private void putLoad(Object[] given, List<int[]> nice) {
        int dice = random.nextInt(10);
        if (dice < 4) {
            int[] one = nice.get(random.nextInt(nice.size()));
            given[0] = one[0];
            given[1] = one[1];
            given[2] = one[2];
        } else if (dice < 7) {
            given[0] = number(0, 5);
            given[1] = number(-4, 5);
            given[2] = number(1, 5);
        } else if (dice < 8) {
            given[0] = random.nextInt(4) == 0 ? 0 : 99;
            given[1] = random.nextBoolean() ? 99 : -99;
            given[2] = number(19, 21);
        } else {
            given[0] = number(-1, 101);
            given[1] = number(-100, 101);
            given[2] = number(0, 22);
        }
    }
}
