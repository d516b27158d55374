import java.lang.reflect.InvocationTargetException;
import java.lang.reflect.Method;
import java.util.ArrayList;
import java.util.HashMap;
import java.util.List;
import java.util.Map;

/**
 * Runs calls that are written as in the document: "add(5, 3, 2, 0, 0) = 0; receive(5) = 0".
 * Each run begins with a new object and keeps to 512 calls. An answer may be the name of one of
 * the document's constants; MIN and MAX are the least and the greatest int. The call text(5w3;)
 * wipes the text and writes this one (with , for ; so that the calls can be told apart:
 * text(5w3,)).
 */
final class Script {
    static final int CALLS_OF_AN_OBJECT = 512;

    private static final Map<String, Method> METHODS = new HashMap<>();
    private static final Map<String, Integer> NAMES = Map.of("BAD_ITEM", -1, "BAD_VALUE", -2,
            "FULL", -3, "NOT_POSSIBLE", -4, "CYCLE", -5, "STALE", -6, "NONE", -7,
            "MIN", Integer.MIN_VALUE, "MAX", Integer.MAX_VALUE);

    static {
        for (Method method : DependencyQueue.class.getMethods()) {
            METHODS.put(method.getName(), method);
        }
    }

    private int calls = 0;
    private int wrong = 0;

    void run(String name, String... parts) {
        DependencyQueue queue = new DependencyQueue();
        int made = 0;
        for (String call : callsOf(parts)) {
            made += check(name, queue, call);
        }
        if (made > CALLS_OF_AN_OBJECT) {
            fail(name + ": the test makes " + made + " calls on one object");
        }
    }

    /** Ends the test: with exit code 1 if an answer was wrong. */
    void end() {
        System.out.println(calls + " calls, " + wrong + " wrong");
        if (wrong != 0 || calls == 0) {
            System.exit(1);
        }
    }

    void fail(String what) {
        wrong++;
        System.out.println(what);
    }

    /** The same part again and again, with the numbers from 0 on in the place of each #. */
    static String repeat(int times, String part) {
        return numbered(0, times, part);
    }

    /** The same part for each number from the first one to the one below the end. */
    static String numbered(int first, int end, String part) {
        StringBuilder parts = new StringBuilder();
        for (int i = first; i < end; i++) {
            parts.append(part.replace("#", Integer.toString(i))).append(";");
        }
        return parts.toString();
    }

    /** The calls that write this text behind an empty one. */
    static String writing(String text) {
        StringBuilder parts = new StringBuilder();
        for (int i = 0; i < text.length(); i++) {
            parts.append("write(" + (int) text.charAt(i) + ") = " + (i + 1) + ";");
        }
        return parts.toString();
    }

    static List<String> callsOf(String... parts) {
        List<String> found = new ArrayList<>();
        for (String call : String.join(";", parts).split(";")) {
            if (!call.isBlank()) {
                found.add(call.trim());
            }
        }
        return found;
    }

    /** Answers how many calls this was. */
    private int check(String name, DependencyQueue queue, String call) {
        int close = call.lastIndexOf(')');
        if (call.startsWith("text(")) {
            return writeText(queue, call.substring(5, close).replace(',', ';'));
        }
        long due = number(call.substring(call.indexOf('=', close) + 1));
        long got = make(queue, call.substring(0, close + 1));
        calls++;
        if (got != due) {
            fail(name + ": " + call.substring(0, close + 1) + " answered " + got
                    + ", due is " + due);
        }
        return 1;
    }

    private static int writeText(DependencyQueue queue, String text) {
        queue.wipe();
        for (char sign : text.toCharArray()) {
            queue.write(sign);
        }
        return text.length() + 1;
    }

    private static long number(String word) {
        Integer named = NAMES.get(word.trim());
        return named != null ? named : Long.parseLong(word.trim());
    }

    /** Makes a call that is written without an answer. */
    static long make(DependencyQueue queue, String call) {
        int open = call.indexOf('(');
        String arguments = call.substring(open + 1, call.lastIndexOf(')'));
        String[] words = arguments.isBlank() ? new String[0] : arguments.split(",");
        Object[] values = new Object[words.length];
        for (int i = 0; i < words.length; i++) {
            values[i] = (int) number(words[i]);
        }
        return call(queue, METHODS.get(call.substring(0, open)), values);
    }

    static long call(Object queue, Method method, Object[] values) {
        try {
            return ((Number) method.invoke(queue, values)).longValue();
        } catch (InvocationTargetException | IllegalAccessException e) {
            throw new IllegalStateException(method.getName(), e);
        }
    }
}
