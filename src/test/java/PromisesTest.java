import java.lang.reflect.Method;
import java.lang.reflect.Modifier;
import java.nio.file.Files;
import java.nio.file.Path;
import java.util.HashSet;
import java.util.Set;

/**
 * The runs of src/test/runs, each on a new StubBench: a row there is a call and its answer. It also looks whether every
 * promise has a run, whether every call that asks a MARK has one at each MARK, and whether every call is met with each
 * exception that its promise names.
 */
public final class PromisesTest {
    private static final int PROMISES = 54;
    private static final int MOST_MARKS = 5;

    private static int wrong = 0;

    public static void main(String[] args) throws Exception {
        Set<String> met = new HashSet<>();
        needAll("promises.txt", play("promises.txt", met));
        needAll("edges.txt", play("edges.txt", met));
        play("marks.txt", met);
        for (Method method : StubBench.class.getDeclaredMethods()) {
            if (Modifier.isPublic(method.getModifiers())) {
                due(met.contains(method.getName()), method.getName() + " is never answered");
                for (Class<?> e : method.getExceptionTypes()) {
                    String told = method.getName() + " throws." + e.getSimpleName();
                    due(met.contains(told), told + " is never met");
                }
            }
        }
        needMarks(met);
        due(StubBench.NONE == -1, "NONE");
        System.out.println(wrong == 0 ? "all promises hold" : wrong + " rows are wrong");
        if (wrong != 0) {
            System.exit(1);
        }
    }

    private static Set<Integer> play(String file, Set<String> met) throws Exception {
        Set<Integer> promises = new HashSet<>();
        StubBench bench = null;
        String run = "";
        for (String row : Files.readAllLines(Path.of("src/test/runs", file))) {
            if (row.startsWith("# promise ")) {
                bench = new StubBench();
                run = row.substring(2);
                promises.add(Integer.parseInt(row.substring(10, row.indexOf(':'))));
            } else if (!row.isBlank()) {
                answer(bench, run, row, met);
            }
        }
        return promises;
    }

    private static void needAll(String file, Set<Integer> promises) {
        for (int i = 1; i <= PROMISES; i++) {
            due(promises.contains(i), "promise " + i + " has no run in " + file);
        }
    }

    private static void answer(StubBench bench, String run, String row, Set<String> met) throws Exception {
        String[] both = row.split(" => ");
        Call call = new Call(both[0]);
        String got = call.on(bench);
        if (got.startsWith("throws.")) {
            met.add(call.name + " " + got);
        } else {
            met.add(call.name);
            met.add(both[0].split("[,)]")[0]);
        }
        due(got.equals(both[1]), run + ": " + both[0] + " answered " + got + ", due is " + both[1]);
    }

    // Those of split() are 0 and 1 alone.
    private static void needMarks(Set<String> met) throws Exception {
        for (String row : Files.readAllLines(Path.of("../shared/DOC.md"))) {
            if (row.startsWith("    public ") && row.contains("(int mark")) {
                String name = row.substring(0, row.indexOf('(')).replaceAll(".* ", "");
                for (int mark = 0; mark < (name.equals("split") ? 2 : MOST_MARKS); mark++) {
                    String asked = name + "(" + mark;
                    due(met.contains(asked), asked + ", ..) is never answered");
                }
            }
        }
    }

    private static void due(boolean holds, String otherwise) {
        if (!holds) {
            wrong++;
            System.out.println(otherwise);
        }
    }
}
