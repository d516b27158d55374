import java.lang.reflect.Method;
import java.util.ArrayList;
import java.util.Arrays;
import java.util.List;
import java.util.Map;
import java.util.Random;
import java.util.TreeMap;

/**
 * Long runs of calls, made up from fixed seeds, on the class and on the model of the document:
 * every answer must be the same. Each kind of answer of each call must come up.
 */
public final class ModelTest {
    private static final int RUNS = 1200;
    private static final int CALLS = 512;

    /** What a run does most; the names of calls, each with its weight. */
    private static final String[] HABITS = {
        "add 20 link 40 unlink 8 setPriority 5 setPolicy 3 setGroupLimit 2 receive 15 finish 8"
            + " giveBack 5 extend 3 cancel 3 revive 3 tick 5 save 1 restore 1 witness 5 all 60",
        "add 25 link 110 unlink 4 witness 20 receive 3 finish 3 cancel 1 revive 1 setPriority 5"
            + " width 15 orders 10 slack 10 height 10 before 10 isSuperfluous 20 wouldDoom 10"
            + " planLength 10 planStart 20 bestWorkers 10 tick 1 setPolicy 2 rank 8 edge 8 all 20",
        "add 20 link 14 unlink 4 receive 60 finish 25 giveBack 25 extend 10 cancel 8 revive 14"
            + " tick 25 setPolicy 3 setGroupLimit 4 state 10 property 25 itemsIn 15 receipt 8"
            + " rank 15 planStart 8 wouldDoom 8 width 4 orders 4 all 20",
        "fill 8 write 6 wipe 1 fault 6 load 4 link 10 receive 6 tick 3 finish 3 cancel 2 save 1"
            + " restore 1 clear 1 add 2 property 5 edge 8 state 4 all 10",
        "add 14 link 16 save 8 restore 8 clear 2 load 2 fill 1 witness 8 receive 10 tick 5"
            + " finish 6 cancel 4 revive 4 setPolicy 3 setGroupLimit 3 property 8 all 30",
        "add 10 link 20 receive 10 finish 4 giveBack 4 extend 4 cancel 2 revive 2 tick 5 all 60",
    };
    /** In the runs of the last habit, arguments are wrong more often than not from this call on. */
    private static final int ASTRAY_FROM = 120;

    /** The kinds of answers that each call can have by the document: + for all but constants. */
    private static final String ANSWERS =
            "add -2 -3 + / link -1 -2 -5 -4 + / witness -2 -7 + / unlink -1 -4 + /"
            + "setPriority -1 -2 -4 + / setPolicy -2 + / setGroupLimit -2 + / clear + /"
            + "receive -2 -7 + / receipt -1 -7 + / finish -1 -6 + / giveBack -1 -2 -6 + /"
            + "extend -1 -2 -6 + / cancel -1 -4 + / revive -1 -4 + / tick -2 + / items + /"
            + "edges + / time + / state -1 + / itemsIn -2 + / property -1 -2 -7 + /"
            + "edge -1 -7 + / rank -1 + / height -1 + / before -1 + / wouldDoom -1 -4 + /"
            + "isSuperfluous -1 -7 + / planLength -2 + / planStart -1 -2 -7 + / bestWorkers -2 + /"
            + "slack -1 -4 + / width + / orders -4 + / write -2 -3 + / wipe + / fault -7 + /"
            + "load -4 + / save -2 + / restore -2 -4 +";

    private static final int[] FAR = {Integer.MIN_VALUE, -8, -7, -1, 20, 21, 32, Integer.MAX_VALUE};

    private static final Map<String, Method> OF_CLASS = methodsOf(DependencyQueue.class);
    private static final Map<String, Method> OF_MODEL = methodsOf(Model.class);
    private static final Map<String, TreeMap<String, Integer>> SEEN = new TreeMap<>();

    private final Random random;
    private final DependencyQueue queue = new DependencyQueue();
    private final Model model = new Model();
    private final List<String> log = new ArrayList<>();
    private final List<String> names = new ArrayList<>();
    /** How often arguments stray from a good range: one in so many. */
    private int stray;
    private final boolean goesAstray;
    /** Links that follow this order close no cycle. */
    private final boolean ordered;
    private final int[] order = new int[20];

    private ModelTest(int seed) {
        random = new Random(seed);
        stray = 4 + random.nextInt(30);
        goesAstray = seed % HABITS.length == HABITS.length - 1;
        ordered = random.nextInt(3) > 0;
        for (int i = 0; i < order.length; i++) {
            int k = random.nextInt(i + 1);
            order[i] = order[k];
            order[k] = i;
        }
        String[] habit = HABITS[seed % HABITS.length].split(" ");
        for (int i = 0; i < habit.length; i += 2) {
            for (int k = 0; k < Integer.parseInt(habit[i + 1]); k++) {
                names.add(habit[i]);
            }
        }
    }

    public static void main(String[] args) {
        int runs = args.length > 0 ? Integer.parseInt(args[0]) : RUNS;
        for (int seed = 0; seed < runs; seed++) {
            new ModelTest(seed).run();
        }
        checkThatAllCameUp();
        System.out.println(runs + " runs of " + CALLS + " calls agree with the model");
    }

    private static Map<String, Method> methodsOf(Class<?> type) {
        Map<String, Method> methods = new TreeMap<>();
        for (Method method : type.getDeclaredMethods()) {
            if (java.lang.reflect.Modifier.isPublic(method.getModifiers())) {
                methods.put(method.getName(), method);
            }
        }
        return methods;
    }

    private static void checkThatAllCameUp() {
        for (String line : ANSWERS.split("/")) {
            String[] words = line.trim().split(" +");
            for (String kind : Arrays.copyOfRange(words, 1, words.length)) {
                if (!SEEN.getOrDefault(words[0], new TreeMap<>()).containsKey(kind)) {
                    System.out.println("no run has the answer " + kind + " of " + words[0]);
                    System.exit(1);
                }
            }
        }
    }

    private void run() {
        int size = 3 + random.nextInt(20);
        for (int i = 0; i < size && random.nextInt(6) > 0 || i < 3; i++) {
            call("add");
        }
        while (log.size() < CALLS) {
            if (goesAstray && log.size() > ASTRAY_FROM) {
                stray = 1 + random.nextInt(2);
            }
            String name = names.get(random.nextInt(names.size()));
            if (name.equals("add") && model.items() >= size && random.nextInt(12) > 0) {
                name = "link";
            }
            if (name.equals("fill")) {
                fillText();
            } else if (name.equals("all")) {
                List<String> all = new ArrayList<>(OF_MODEL.keySet());
                all.removeAll(List.of("clear", "load", "wipe", "restore"));
                call(all.get(random.nextInt(all.size())));
            } else {
                call(name);
            }
        }
    }

    private void fillText() {
        call("wipe");
        for (char sign : someText().toCharArray()) {
            call("write", (int) sign);
        }
        call("fault");
        if (random.nextBoolean()) {
            call("load");
        }
    }

    private String someText() {
        StringBuilder text = new StringBuilder();
        int count = random.nextInt(4) == 0 ? random.nextInt(24) : random.nextInt(8);
        for (int i = 0; i < count; i++) {
            text.append(random.nextInt(10)).append('w').append(someNumber(1, 20));
            for (int k = random.nextInt(4); k > 0 && i > 0; k--) {
                text.append(random.nextBoolean() ? '<' : '!').append(someNumber(0, i - 1));
            }
            text.append(';');
        }
        if (random.nextInt(5) == 0 && text.length() > 0) {
            text.setLength(random.nextInt(text.length()));
        }
        for (int k = random.nextInt(3); k > 0 && text.length() > 0; k--) {
            String signs = "0123456789w;<!~ ,W:/";
            char sign = signs.charAt(random.nextInt(signs.length()));
            text.setCharAt(random.nextInt(text.length()), sign);
        }
        return text.toString();
    }

    private String someNumber(int least, int most) {
        int number = least + random.nextInt(most - least + 1);
        if (random.nextInt(20) == 0) {
            number = random.nextInt(30);
        }
        return number < 10 && random.nextInt(5) == 0 ? "0" + number : "" + number;
    }

    private void call(String name) {
        int item = someItem();
        Object[] values = switch (name) {
            case "add" -> new Object[] {in(0, 9), in(1, 20), in(1, 5), in(0, 3), in(0, 20)};
            case "link" -> someLink();
            case "unlink", "edge", "isSuperfluous" -> someEdge();
            case "witness" -> new Object[] {in(0, 6)};
            case "setPriority" -> new Object[] {item, in(0, 9)};
            case "setPolicy", "bestWorkers" -> new Object[] {in(0, 2)};
            case "setGroupLimit" -> new Object[] {random.nextBoolean() ? in(1, 9) : in(1, 3)};
            case "receive" -> new Object[] {random.nextBoolean() ? in(1, 30) : in(1, 4)};
            case "finish" -> new Object[] {item = inFlight(item), someReceipt(item)};
            case "giveBack" -> new Object[] {item = inFlight(item), someReceipt(item), in(0, 10)};
            case "extend" -> new Object[] {item = inFlight(item), someReceipt(item), in(1, 30)};
            case "tick" -> new Object[] {random.nextInt(4) == 0 ? in(1, 30) : in(1, 3)};
            case "itemsIn" -> new Object[] {in(0, 6)};
            case "property" -> new Object[] {item, random.nextBoolean() ? in(0, 7) : in(5, 7)};
            case "receipt", "cancel", "revive", "state", "rank", "height", "before", "wouldDoom",
                "slack" -> new Object[] {item};
            case "planLength" -> new Object[] {in(1, 6), in(0, 2)};
            case "planStart" -> new Object[] {item, in(1, 6), in(0, 2)};
            case "write" -> new Object[] {in(32, 126)};
            case "save", "restore" -> new Object[] {in(0, 1)};
            default -> new Object[0];
        };
        call(name, values);
    }

    private int in(int least, int most) {
        if (random.nextInt(stray) > 0) {
            return least + random.nextInt(most - least + 1);
        }
        int[] near = {least - 1, least, most, most + 1};
        return random.nextInt(4) > 0 ? near[random.nextInt(4)] : FAR[random.nextInt(FAR.length)];
    }

    private int someItem() {
        return in(0, Math.max(0, model.items() - 1));
    }

    private int inFlight(int item) {
        int set = model.itemsIn(2);
        return set == 0 || random.nextInt(stray) == 0 ? item : pick(set);
    }

    private int pick(int set) {
        int at = random.nextInt(Integer.bitCount(set));
        int rest = set;
        for (int i = 0; i < at; i++) {
            rest &= rest - 1;
        }
        return Integer.numberOfTrailingZeros(rest);
    }

    private int someReceipt(int item) {
        int receipt = model.receipt(item);
        return random.nextInt(stray) > 0 ? receipt : receipt + random.nextInt(5) - 2;
    }

    private Object[] someLink() {
        int from = someItem();
        int to = someItem();
        boolean turned = ordered && from >= 0 && from < 20 && to >= 0 && to < 20
                && order[from] > order[to] && random.nextInt(8) > 0;
        return turned ? new Object[] {to, from, in(0, 1)} : new Object[] {from, to, in(0, 1)};
    }

    private Object[] someEdge() {
        int from = someItem();
        int to = someItem();
        for (int k = 0; k < 8 && model.edge(from, to) < 0; k++) {
            from = someItem();
            to = someItem();
        }
        return new Object[] {from, to};
    }

    private void call(String name, Object... values) {
        long due = Script.call(model, OF_MODEL.get(name), values);
        long got = Script.call(queue, OF_CLASS.get(name), values);
        log.add(name + Arrays.toString(values) + " = " + due);
        // An answer below 0 is a constant in every call.
        String kind = due < 0 ? Long.toString(due) : "+";
        SEEN.computeIfAbsent(name, key -> new TreeMap<>()).merge(kind, 1, Integer::sum);
        if (got != due) {
            log.forEach(System.out::println);
            System.out.println("the last call answered " + got);
            System.exit(1);
        }
    }
}
