import java.lang.reflect.InvocationTargetException;
import java.lang.reflect.Method;
import java.lang.reflect.Modifier;
import java.util.ArrayList;
import java.util.List;
import java.util.Random;
import java.util.Set;

/**
 * A call that throws changes nothing, and one that only asks changes nothing: of two objects with the same calls behind
 * them one hears such calls besides, and both must go on telling the same. It also looks whether the 512th call answers.
 */
public final class UnchangedTest {
    private static final Set<String> CHANGING =
            Set.of("load", "add", "drop", "trim", "limit", "build", "dual", "arrange", "keep", "bring");
    private static final int ROUNDS = 6;
    // An odd number, so that what is turned twice is seen.
    private static final int BESIDES = 21;
    private static final int MOST_CALLS = 512;
    private static final int[] NUMBERS = {0, 1, 2, 3, 4, 0, 1, -1, 5, 12, 13, 20, 21, 99, 100, -12, -100,
        Integer.MIN_VALUE, Integer.MAX_VALUE};

    private interface Setting {
        void put(StubBench bench);
    }

    private static final Setting[] SETTINGS = {
        bench -> { },
        bench -> bench.load(0, 0, 1),
        bench -> {
            bench.load(1, 13, 1);
            bench.add(0, 0, 1);
        },
        bench -> {
            bench.load(4, 0, 1);
            bench.add(0, 2, 1);
            bench.limit(3, 7);
        },
        bench -> {
            bench.load(8, -3, 5);
            bench.keep(1);
            bench.add(1, -5, 7);
            bench.add(4, 1, 0);
            bench.keep(2);
            bench.load(5, 0, 8);
            bench.drop();
        },
        bench -> {
            bench.load(0, 1, 1);
            bench.add(0, 1, 1);
            bench.add(3, 12, 11);
        },
        bench -> {
            bench.load(91, 2, 1);
            bench.add(4, 1, 11);
            bench.add(4, -1, 11);
            bench.add(2, 1, 1);
            bench.limit(0, 1);
        },
        bench -> {
            bench.load(99, 98, 20);
            bench.add(0, 12, 11);
            bench.keep(0);
            bench.add(1, 3, 4);
            bench.keep(1);
            bench.add(2, -5, 6);
            bench.keep(2);
            bench.add(3, 7, 8);
            bench.keep(3);
            bench.limit(19, 20);
        },
        bench -> {
            bench.load(1, 0, 1);
            bench.add(1, 1, 2);
            bench.add(0, 1, 0);
            bench.add(0, -1, 12);
            bench.add(2, 1, 3);
            bench.keep(3);
            bench.drop();
            bench.trim(0, 0, 1);
        },
    };

    private static int wrong = 0;
    private static int thrown = 0;

    public static void main(String[] args) throws Exception {
        Random random = new Random(54);
        for (Method method : StubBench.class.getDeclaredMethods()) {
            if (Modifier.isPublic(method.getModifiers())) {
                for (int setting = 0; setting < SETTINGS.length; setting++) {
                    for (int round = 0; round < ROUNDS; round++) {
                        compare(method, setting, random);
                    }
                }
            }
        }
        due(thrown > 10_000, "few calls throw: " + thrown);
        lastCall();
        System.out.println(wrong == 0 ? "nothing is changed" : wrong + " are wrong");
        if (wrong != 0) {
            System.exit(1);
        }
    }

    private static void due(boolean holds, String otherwise) {
        if (!holds) {
            wrong++;
            System.out.println(otherwise);
        }
    }

    private static void compare(Method method, int setting, Random random) throws Exception {
        StubBench one = new StubBench();
        StubBench other = new StubBench();
        SETTINGS[setting].put(one);
        SETTINGS[setting].put(other);
        List<String> heard = new ArrayList<>();
        for (int i = 0; i < BESIDES; i++) {
            Object[] given = draw(method, random);
            if (!CHANGING.contains(method.getName()) || wouldThrow(method, setting, given)) {
                heard.add(method.getName() + java.util.Arrays.toString(given));
                isThrown(one, method, given);
            }
        }
        String got = told(one) + shelves(one);
        String due = told(other) + shelves(other);
        due(got.equals(due), "setting " + setting + ", " + heard + ":\n" + got + "\nbut due is\n" + due);
    }

    private static Object[] draw(Method method, Random random) {
        Class<?>[] types = method.getParameterTypes();
        Object[] given = new Object[types.length];
        int few = random.nextInt(3) == 0 ? NUMBERS.length : 8;
        for (int i = 0; i < types.length; i++) {
            given[i] = types[i] == boolean.class ? (Object) random.nextBoolean() : (Object) NUMBERS[random.nextInt(few)];
        }
        return given;
    }

    private static boolean wouldThrow(Method method, int setting, Object[] given) throws Exception {
        StubBench third = new StubBench();
        SETTINGS[setting].put(third);
        return isThrown(third, method, given);
    }

    private static boolean isThrown(StubBench bench, Method method, Object[] given) throws Exception {
        try {
            method.invoke(bench, given);
            return false;
        } catch (InvocationTargetException e) {
            thrown++;
            boolean isTold = Set.of(method.getExceptionTypes()).contains(e.getCause().getClass());
            due(isTold, method.getName() + java.util.Arrays.toString(given) + " threw " + e.getCause());
            return true;
        }
    }

    private static String told(StubBench bench) {
        StringBuilder all = new StringBuilder();
        for (int i = 0; i < 10; i++) {
            all.append(bench.count(i)).append(i < 9 ? " " : " | ");
        }
        for (int i = 0; i < bench.count(0); i++) {
            all.append(bench.element(i, 0)).append(' ').append(bench.element(i, 1)).append(' ');
            all.append(bench.element(i, 2)).append(" | ");
        }
        for (int i = 0; i <= bench.count(0); i++) {
            all.append(bench.isEndless(i)).append(' ').append(bench.echo(i, false)).append(' ');
            all.append(bench.echo(i, true)).append(" | ");
        }
        for (int i = 0; i < 4; i++) {
            all.append(bench.rank(i)).append(' ').append(bench.placement(i)).append(' ');
        }
        return all.append(bench.wide()).append(' ').append(bench.length(1)).append(' ').append(bench.drift(1)).toString();
    }

    private static String shelves(StubBench bench) {
        StringBuilder all = new StringBuilder();
        for (int i = 0; i < 4; i++) {
            if ((bench.count(6) >> i & 1) != 0) {
                bench.bring(i);
                all.append("\n").append(i).append(": ").append(told(bench));
            }
        }
        return all.toString();
    }

    private static void lastCall() {
        StubBench bench = new StubBench();
        bench.load(4, 0, 1);
        bench.add(0, 0, 1);
        bench.keep(0);
        for (int call = 4; call < MOST_CALLS; call++) {
            int what = call % 5;
            due(bench.best(4, what) == new int[] {2, 1, 0, 2, 3}[what], "call " + call);
        }
        due(bench.best(4, 5) == 0, "the last call");
    }
}
