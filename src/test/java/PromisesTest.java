import java.lang.reflect.InvocationTargetException;
import java.lang.reflect.Method;
import java.lang.reflect.Modifier;
import java.nio.file.Files;
import java.nio.file.Path;
import java.util.HashSet;
import java.util.Set;

/**
 * The runs of src/test/runs, each on a new StubBench: a row there is a call and its answer. It also looks whether every
 * promise has a run in each file, and every call is met with each exception that its promise names.
 */
public final class PromisesTest {
    private static final int PROMISES = 54;
    private static final String[] FILES = {"promises.txt", "edges.txt"};

    private static int wrong = 0;

    public static void main(String[] args) throws Exception {
        Set<String> met = new HashSet<>();
        for (String file : FILES) {
            play(Path.of("src/test/runs", file), met);
        }
        for (Method method : StubBench.class.getDeclaredMethods()) {
            if (Modifier.isPublic(method.getModifiers())) {
                due(met.contains(method.getName()), method.getName() + " is never answered");
                for (Class<?> e : method.getExceptionTypes()) {
                    String told = method.getName() + " throws." + e.getSimpleName();
                    due(met.contains(told), told + " is never met");
                }
            }
        }
        due(StubBench.NONE == -1, "NONE");
        System.out.println(wrong == 0 ? "all promises hold" : wrong + " rows are wrong");
        if (wrong != 0) {
            System.exit(1);
        }
    }

    private static void play(Path file, Set<String> met) throws Exception {
        Set<Integer> promises = new HashSet<>();
        StubBench bench = null;
        String run = "";
        for (String row : Files.readAllLines(file)) {
            if (row.startsWith("# promise ")) {
                bench = new StubBench();
                run = row.substring(2);
                promises.add(Integer.parseInt(row.substring(10, row.indexOf(':'))));
            } else if (!row.isBlank()) {
                answer(bench, run, row, met);
            }
        }
        for (int i = 1; i <= PROMISES; i++) {
            due(promises.contains(i), "promise " + i + " has no run in " + file);
        }
    }

    private static void answer(StubBench bench, String run, String row, Set<String> met) throws Exception {
        String[] both = row.split(" => ");
        String name = both[0].substring(0, both[0].indexOf('('));
        String inner = both[0].substring(both[0].indexOf('(') + 1, both[0].length() - 1);
        String[] words = inner.isEmpty() ? new String[0] : inner.split(", ");
        Object[] given = new Object[words.length];
        Class<?>[] types = new Class<?>[words.length];
        for (int i = 0; i < words.length; i++) {
            boolean isNumber = !words[i].equals("true") && !words[i].equals("false");
            given[i] = isNumber ? (Object) Integer.valueOf(words[i]) : (Object) Boolean.valueOf(words[i]);
            types[i] = isNumber ? int.class : boolean.class;
        }
        String got;
        Method method = StubBench.class.getMethod(name, types);
        try {
            Object told = method.invoke(bench, given);
            got = method.getReturnType() == void.class ? "nothing" : String.valueOf(told);
            met.add(name);
        } catch (InvocationTargetException e) {
            got = "throws." + e.getCause().getClass().getSimpleName();
            met.add(name + " " + got);
        }
        due(got.equals(both[1]), run + ": " + both[0] + " answered " + got + ", due is " + both[1]);
    }

    private static void due(boolean holds, String otherwise) {
        if (!holds) {
            wrong++;
            System.out.println(otherwise);
        }
    }
}
