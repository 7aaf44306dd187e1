import java.io.PrintWriter;
import java.io.StringWriter;
import java.lang.reflect.Field;
import java.lang.reflect.Method;
import java.lang.reflect.Modifier;
import java.nio.file.Files;
import java.nio.file.Path;
import java.util.ArrayList;
import java.util.HashMap;
import java.util.HashSet;
import java.util.List;
import java.util.Map;
import java.util.Set;
import java.util.TreeSet;
import java.util.regex.Matcher;
import java.util.regex.Pattern;
import java.util.spi.ToolProvider;

/** The public face, as DOC.md writes it, and those rules of LANGUAGE.md that can be seen in the text or the class. */
public final class FaceTest {
    private static final int DEEPEST = 8;
    private static final int MOST_PARAMETERS = 7;
    // The rules say "some" of these three, so there is some room.
    private static final int MOST_FIELDS = 22;
    private static final int MOST_CLASSES = 14;
    private static final int LONGEST = 66;
    private static final String LIBRARY = "java/lang/(Object|Enum|Record)\\.\"<init>\""
            + "|java/(lang|util)/(IllegalState|IllegalArgument|IndexOutOfBounds|Arithmetic|UnsupportedOperation"
            + "|NoSuchElement|Runtime)Exception\\.\"<init>\""
            + "|java/lang/String\\.(\"<init>\"|length|charAt|isEmpty|equals|indexOf|substring|toCharArray)"
            + "|java/lang/StringBuilder\\.(\"<init>\"|append|charAt|setCharAt|setLength|deleteCharAt|reverse|length|toString)"
            + "|java/util/(ArrayList|List)\\.(\"<init>\"|add|get|set|remove|size|isEmpty|clear|iterator|of)"
            + "|java/util/Iterator\\.(hasNext|next)|java/lang/Iterable\\.iterator|java/lang/Comparable\\.compareTo"
            + "|java/lang/(Integer|Long|Math)\\.(?!\\w*Exact)\\w+|java/lang/System\\.arraycopy"
            + "|java/util/Arrays\\.(copyOf|copyOfRange|fill)|java/lang/Enum\\.(valueOf|ordinal)";

    // What the machine throws, and what stands above it: none of these is ever caught.
    private static final String OF_THE_MACHINE = "catch \\([^)]*\\b(Throwable|Exception|RuntimeException|Error"
            + "|(Array|String)?IndexOutOfBoundsException|NullPointerException|ArithmeticException|ClassCastException"
            + "|NegativeArraySizeException|ArrayStoreException)\\b";

    private static int wrong = 0;

    public static void main(String[] args) throws Exception {
        face();
        text();
        code();
        System.out.println(wrong == 0 ? "the face and the rules hold" : wrong + " are wrong");
        if (wrong != 0) {
            System.exit(1);
        }
    }

    private static void due(boolean holds, String otherwise) {
        if (!holds) {
            wrong++;
            System.out.println(otherwise);
        }
    }

    // ---- rule 1

    private static void face() throws Exception {
        String doc = Files.readString(Path.of("../shared/DOC.md"));
        String block = doc.substring(doc.indexOf("public final class"), doc.indexOf("## Terms"));
        Set<String> due = new TreeSet<>();
        Matcher row = Pattern.compile("    public (.*);").matcher(block);
        while (row.find()) {
            due.add(row.group(1).replaceAll(" = .*", "").replaceAll("(int|boolean) \\w+([,)])", "$1$2"));
        }
        Set<String> got = new TreeSet<>();
        for (Method method : StubBench.class.getDeclaredMethods()) {
            int hidden = Modifier.PRIVATE | Modifier.PUBLIC;
            due((method.getModifiers() & hidden) != 0, method + " is neither public nor private");
            if (Modifier.isPublic(method.getModifiers())) {
                got.add(told(method));
            }
        }
        for (Field field : StubBench.class.getDeclaredFields()) {
            if (Modifier.isPublic(field.getModifiers())) {
                got.add("static final " + field.getType() + " " + field.getName());
            } else {
                due(Modifier.isPrivate(field.getModifiers()), field + " is not private");
            }
        }
        due(StubBench.class.getConstructors().length == 1, "constructors");
        got.add("StubBench()");
        due(got.equals(due), "the face is\n" + got + "\nbut due is\n" + due);
        due(StubBench.class.getModifiers() == (Modifier.PUBLIC | Modifier.FINAL), "the class is not public final");
        names();
    }

    private static String told(Method method) {
        List<String> types = new ArrayList<>();
        for (Class<?> type : method.getParameterTypes()) {
            types.add(type.getSimpleName());
        }
        List<String> thrown = new ArrayList<>();
        for (Class<?> type : method.getExceptionTypes()) {
            thrown.add(type.getSimpleName());
        }
        return method.getReturnType() + " " + method.getName() + "(" + String.join(", ", types) + ")"
                + (thrown.isEmpty() ? "" : " throws " + String.join(", ", thrown));
    }

    private static void names() {
        Set<String> open = new HashSet<>();
        for (Method method : StubBench.class.getMethods()) {
            if (method.getDeclaringClass() == StubBench.class) {
                open.add(method.getName());
            }
        }
        List<Class<?>> classes = new ArrayList<>(List.of(StubBench.class.getDeclaredClasses()));
        due(classes.size() + 1 <= MOST_CLASSES, "too many classes");
        classes.add(StubBench.class);
        for (Class<?> c : classes) {
            int fields = 0;
            for (Field field : c.getDeclaredFields()) {
                boolean isConstant = Modifier.isStatic(field.getModifiers());
                fields += isConstant ? 0 : 1;
                due(!isConstant || Modifier.isFinal(field.getModifiers()), field + " is static, not final");
            }
            due(fields <= MOST_FIELDS, c + " has " + fields + " fields");
            for (Method method : c.getDeclaredMethods()) {
                boolean isFace = Modifier.isPublic(method.getModifiers());
                due(isFace || c != StubBench.class || !open.contains(method.getName()), method + " bears a name of the face");
                due(isFace || method.getParameterCount() <= MOST_PARAMETERS, method + " has too many parameters");
            }
        }
    }

    // ---- rules 1 to 11, in the text

    private static void text() throws Exception {
        String text = Files.readString(Path.of("src/main/java/StubBench.java"));
        for (String word : new String[] {"::", "finally {", "try (", "synchronized ", "assert ", "while (true", "for (;;",
            "Exact(", "package ", "static {", "volatile ", "printStackTrace", "import static"}) {
            due(!text.contains(word), "the text has " + word);
        }
        due(!Pattern.compile(OF_THE_MACHINE).matcher(text).find(), "the text catches what the machine throws");
        Matcher imports = Pattern.compile("(?m)^import (.*);").matcher(text);
        while (imports.find()) {
            due(imports.group(1).startsWith("java.util."), "the text has import " + imports.group(1));
        }
        int began = 0;
        String[] rows = text.split("\n");
        for (int i = 0; i < rows.length; i++) {
            if (rows[i].matches(" {4}(    )?[a-z].*\\{") && !rows[i].contains(" class ")) {
                began = i;
            } else if (rows[i].matches(" {4}(    )?}")) {
                due(i - began <= LONGEST, "a method too long ends in row " + (i + 1));
            }
        }
    }

    // ---- rules 4, 8, 11, 12, in the class

    private static void code() throws Exception {
        Map<String, Set<String>> calls = new HashMap<>();
        List<String> names = new ArrayList<>(List.of("StubBench"));
        for (Class<?> c : StubBench.class.getDeclaredClasses()) {
            names.add(c.getName());
        }
        for (String name : names) {
            calls(name, calls);
        }
        for (String method : calls.keySet()) {
            int deep = deep(method, calls, 1);
            due(deep <= DEEPEST, method + " goes " + deep + " deep");
        }
    }

    private static void calls(String name, Map<String, Set<String>> calls) {
        StringWriter out = new StringWriter();
        String path = System.getProperty("java.class.path");
        ToolProvider.findFirst("javap").orElseThrow().run(new PrintWriter(out), new PrintWriter(out),
                "-c", "-p", "-cp", path, name);
        String method = "";
        Pattern head = Pattern.compile("^  .*?([\\w$]+)\\(.*\\).*;$");
        Pattern making = Pattern.compile("^ +\\d+: (new|\\w*newarray) +(?:#\\d+.*// class )?(\\S+)");
        Pattern call = Pattern.compile("(?:Interface)?Method (?:([\\w/$]+)\\.)?(\"<init>\"|\\w+):");
        for (String row : out.toString().split("\n")) {
            Matcher begins = head.matcher(row);
            Matcher calling = call.matcher(row);
            Matcher makes = making.matcher(row);
            if (makes.find() && !method.equals("\"<init>\"")) {
                due(makes.group(2).endsWith("Exception"), name + "." + method + " makes a " + makes.group(2));
            }
            due(!row.contains("invokedynamic"), name + "." + method + " has an invokedynamic");
            if (begins.matches()) {
                method = begins.group(1).equals(name) ? "\"<init>\"" : begins.group(1);
            } else if (calling.find()) {
                String on = calling.group(1) == null ? name : calling.group(1);
                String called = on + "." + calling.group(2);
                due(!on.startsWith("java/") || called.matches(LIBRARY), called + " is not in the library");
                calls.computeIfAbsent(name + "." + method, n -> new HashSet<>()).add(called);
            }
        }
    }

    private static int deep(String method, Map<String, Set<String>> calls, int level) {
        if (level > 2 * DEEPEST) {
            return level;
        }
        int deepest = level;
        for (String called : calls.getOrDefault(method, Set.of())) {
            if (!called.endsWith(".\"<init>\"")) {
                deepest = Math.max(deepest, deep(called, calls, level + 1));
            }
        }
        return deepest;
    }
}
