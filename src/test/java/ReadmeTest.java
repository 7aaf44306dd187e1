import java.nio.file.Files;
import java.nio.file.Path;
import java.util.Set;
import java.util.TreeSet;
import java.util.regex.Matcher;
import java.util.regex.Pattern;

/** What README.md says: its calls answer so, and the tests that it tells are those that there are. */
public final class ReadmeTest {
    private static int wrong = 0;

    public static void main(String[] args) throws Exception {
        String text = Files.readString(Path.of("README.md"));
        calls(text);
        tests(text);
        System.out.println(wrong == 0 ? "README.md is so" : wrong + " are not as README.md says");
        if (wrong != 0) {
            System.exit(1);
        }
    }

    private static void due(boolean holds, String otherwise) {
        if (!holds) {
            wrong++;
            System.out.println(otherwise);
        }
    }

    private static void calls(String text) throws Exception {
        String block = text.substring(text.indexOf("```java\n") + 8, text.indexOf("```\n\n", text.indexOf("```java\n")));
        String[] rows = block.split("\n");
        due(rows[0].equals("StubBench bench = new StubBench();"), "the calls do not begin with a new object");
        due(rows.length > 10, "there are few calls");
        StubBench bench = new StubBench();
        Pattern form = Pattern.compile("bench\\.(\\w+\\(.*?\\)); +// ([\\w.-]+): .*");
        for (int i = 1; i < rows.length; i++) {
            Matcher row = form.matcher(rows[i]);
            due(row.matches(), "no call with its answer: " + rows[i]);
            if (row.matches()) {
                String got = new Call(row.group(1)).on(bench);
                due(got.equals(row.group(2)), row.group(1) + " answered " + got + ", README.md says " + row.group(2));
            }
        }
    }

    private static void tests(String text) throws Exception {
        Set<String> told = new TreeSet<>();
        Matcher name = Pattern.compile("`(\\w+Test|\\w+\\.txt|src/[\\w/.]+|\\.ci/run)`").matcher(text);
        while (name.find()) {
            told.add(name.group(1));
        }
        Set<String> due = new TreeSet<>(Set.of("src/main/java/StubBench.java", "src/test/runs"));
        addNames("src/test/java", "Test.java", "Test", due);
        addNames("src/test/runs", ".txt", ".txt", due);
        due(told.equals(due), "README.md tells " + told + ", there are " + due);
        for (String path : told) {
            due(!path.startsWith("src/") || Files.exists(Path.of(path)), "there is no " + path);
        }
        due(text.contains("    bash .ci/run\n"), "the command is not told");
        due(Files.isExecutable(Path.of(".ci/run")), ".ci/run can't be run");
    }

    private static void addNames(String folder, String ending, String toldEnding, Set<String> names) throws Exception {
        try (var files = Files.list(Path.of(folder))) {
            files.map(file -> file.getFileName().toString()).filter(name -> name.endsWith(ending))
                    .forEach(name -> names.add(name.substring(0, name.length() - ending.length()) + toldEnding));
        }
    }
}
