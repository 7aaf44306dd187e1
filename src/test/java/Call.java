import java.lang.reflect.InvocationTargetException;
import java.lang.reflect.Method;

/** A call of the face, written as in a program, and what it answers as text; for the tests alone. */
final class Call {
    final String name;
    private final Method method;
    private final Object[] given;

    Call(String written) throws Exception {
        name = written.substring(0, written.indexOf('('));
        String inner = written.substring(written.indexOf('(') + 1, written.length() - 1);
        String[] words = inner.isEmpty() ? new String[0] : inner.split(", ");
        given = new Object[words.length];
        Class<?>[] types = new Class<?>[words.length];
        for (int i = 0; i < words.length; i++) {
            boolean isNumber = !words[i].equals("true") && !words[i].equals("false");
            given[i] = isNumber ? (Object) Integer.valueOf(words[i]) : (Object) Boolean.valueOf(words[i]);
            types[i] = isNumber ? int.class : boolean.class;
        }
        method = StubBench.class.getMethod(name, types);
    }

    /** "nothing", if it answers nothing; throws.IllegalStateException, or another one's name, if it throws. */
    String on(StubBench bench) throws Exception {
        try {
            Object told = method.invoke(bench, given);
            return method.getReturnType() == void.class ? "nothing" : String.valueOf(told);
        } catch (InvocationTargetException e) {
            return "throws." + e.getCause().getClass().getSimpleName();
        }
    }
}
