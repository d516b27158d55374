import java.lang.reflect.InvocationTargetException;
import java.lang.reflect.Method;
import java.util.HashMap;
import java.util.Map;

/**
 * Runs calls that are written as in the document: "add(5, 3, 2, 0, 0) = 0; receive(5) = 0".
 * Each run begins with a new object. The call text(5w3;) wipes the text and writes this one
 * (with , for ; so that the calls can be told apart: text(5w3,)).
 */
final class Script {
    private static final Map<String, Method> METHODS = new HashMap<>();

    static {
        for (Method method : DependencyQueue.class.getMethods()) {
            METHODS.put(method.getName(), method);
        }
    }

    private int calls = 0;
    private int wrong = 0;

    void run(String name, String... parts) {
        DependencyQueue queue = new DependencyQueue();
        for (String call : String.join(";", parts).split(";")) {
            if (!call.isBlank()) {
                check(name, queue, call.trim());
            }
        }
    }

    /** Ends the test: with exit code 1 if an answer was wrong. */
    void end() {
        System.out.println(calls + " calls, " + wrong + " wrong");
        if (wrong != 0 || calls == 0) {
            System.exit(1);
        }
    }

    private void check(String name, DependencyQueue queue, String call) {
        int open = call.indexOf('(');
        int close = call.lastIndexOf(')');
        String method = call.substring(0, open);
        String arguments = call.substring(open + 1, close);
        if (method.equals("text")) {
            writeText(queue, arguments.replace(',', ';'));
            return;
        }
        long due = Long.parseLong(call.substring(call.indexOf('=', close) + 1).trim());
        long got = answer(queue, method, arguments);
        calls++;
        if (got != due) {
            wrong++;
            System.out.println(name + ": " + method + "(" + arguments + ") answered " + got
                    + ", due is " + due);
        }
    }

    private static void writeText(DependencyQueue queue, String text) {
        queue.wipe();
        for (char sign : text.toCharArray()) {
            queue.write(sign);
        }
    }

    private static long answer(DependencyQueue queue, String method, String arguments) {
        String[] words = arguments.isBlank() ? new String[0] : arguments.split(",");
        Object[] values = new Object[words.length];
        for (int i = 0; i < words.length; i++) {
            values[i] = Integer.valueOf(words[i].trim());
        }
        return call(queue, METHODS.get(method), values);
    }

    static long call(Object queue, Method method, Object[] values) {
        try {
            return ((Number) method.invoke(queue, values)).longValue();
        } catch (InvocationTargetException | IllegalAccessException e) {
            throw new IllegalStateException(method.getName(), e);
        }
    }
}
