import java.util.ArrayDeque;
import java.util.ArrayList;
import java.util.BitSet;
import java.util.Deque;
import java.util.HashMap;
import java.util.List;
import java.util.Map;
import java.util.TreeMap;
import java.util.TreeSet;

/**
 * The document told a second time, word by word and without regard to speed or room, in other
 * ways than the class itself: ModelTest compares the two.
 */
final class Model {
    private static final int BAD_ITEM = -1;
    private static final int BAD_VALUE = -2;
    private static final int FULL = -3;
    private static final int NOT_POSSIBLE = -4;
    private static final int CYCLE = -5;
    private static final int STALE = -6;
    private static final int NONE = -7;

    enum State { WAITING, READY, IN_FLIGHT, DONE, CANCELLED, DOOMED, DEAD }

    private static final class Item {
        int priority;
        int work;
        int attempts;
        int group;
        int delay;
        State state;
        int readyTime;
        int since;
        int deadline;
        int receives;
        Integer receipt;
        /** The kinds of the edges to it, by predecessor. */
        final Map<Integer, Integer> edges = new TreeMap<>();

        boolean ended() {
            return state.ordinal() >= 3;
        }

        Item copy() {
            Item copy = new Item();
            copy.priority = priority;
            copy.work = work;
            copy.attempts = attempts;
            copy.group = group;
            copy.delay = delay;
            copy.state = state;
            copy.readyTime = readyTime;
            copy.since = since;
            copy.deadline = deadline;
            copy.receives = receives;
            copy.receipt = receipt;
            copy.edges.putAll(edges);
            return copy;
        }
    }

    private static final class Saved {
        final List<Item> items = new ArrayList<>();
        int time;
        int policy;
        int limit;
        int receipts;
    }

    private List<Item> items = new ArrayList<>();
    private int time = 0;
    private int policy = 0;
    private int limit = 9;
    private int receipts = 0;
    private List<Integer> witness = List.of();
    private final StringBuilder text = new StringBuilder();
    private final Map<Integer, Saved> slots = new HashMap<>();

    private boolean is(int item) {
        return 0 <= item && item < items.size();
    }

    private static boolean out(int value, int least, int most) {
        return value < least || most < value;
    }

    // ---- Items and edges.

    public int add(int priority, int work, int attempts, int group, int delay) {
        if (out(priority, 0, 9) || out(work, 1, 20) || out(attempts, 1, 5) || out(group, 0, 3)
                || out(delay, 0, 20)) {
            return BAD_VALUE;
        }
        if (items.size() == 20) {
            return FULL;
        }
        Item item = newItem(priority, work, attempts, group, delay);
        items.add(item);
        ready(item, delay);
        return items.size() - 1;
    }

    private static Item newItem(int priority, int work, int attempts, int group, int delay) {
        Item item = new Item();
        item.priority = priority;
        item.work = work;
        item.attempts = attempts;
        item.group = group;
        item.delay = delay;
        item.state = State.WAITING;
        return item;
    }

    private void ready(Item item, int pause) {
        item.state = State.READY;
        item.readyTime = time + pause;
        item.since = time;
    }

    public int link(int from, int to, int kind) {
        if (!is(from) || !is(to)) {
            return BAD_ITEM;
        }
        if (out(kind, 0, 1)) {
            return BAD_VALUE;
        }
        List<Integer> path = shortestPath(to, from);
        if (path != null) {
            witness = path;
            return CYCLE;
        }
        Item successor = items.get(to);
        if (successor.state == State.IN_FLIGHT || successor.ended()) {
            return NOT_POSSIBLE;
        }
        successor.edges.put(from, kind);
        settle();
        return edges();
    }

    /** Paths grow edge by edge, smallest lists first, so the first one that arrives is told. */
    private List<Integer> shortestPath(int first, int last) {
        Deque<List<Integer>> open = new ArrayDeque<>();
        TreeSet<Integer> seen = new TreeSet<>(List.of(first));
        open.add(List.of(first));
        while (!open.isEmpty()) {
            List<Integer> path = open.remove();
            int end = path.get(path.size() - 1);
            if (end == last) {
                return path;
            }
            for (int next = 0; next < items.size(); next++) {
                if (items.get(next).edges.containsKey(end) && seen.add(next)) {
                    List<Integer> longer = new ArrayList<>(path);
                    longer.add(next);
                    open.add(longer);
                }
            }
        }
        return null;
    }

    public int witness(int k) {
        if (k < 0) {
            return BAD_VALUE;
        }
        return k < witness.size() ? witness.get(k) : NONE;
    }

    public int unlink(int from, int to) {
        if (!is(from) || !is(to)) {
            return BAD_ITEM;
        }
        Item successor = items.get(to);
        if (!successor.edges.containsKey(from) || successor.state == State.IN_FLIGHT
                || successor.ended()) {
            return NOT_POSSIBLE;
        }
        successor.edges.remove(from);
        settle();
        return edges();
    }

    public int setPriority(int item, int priority) {
        if (!is(item)) {
            return BAD_ITEM;
        }
        if (out(priority, 0, 9)) {
            return BAD_VALUE;
        }
        if (items.get(item).ended()) {
            return NOT_POSSIBLE;
        }
        int old = items.get(item).priority;
        items.get(item).priority = priority;
        return old;
    }

    public int setPolicy(int wanted) {
        if (out(wanted, 0, 2)) {
            return BAD_VALUE;
        }
        int old = policy;
        policy = wanted;
        return old;
    }

    public int setGroupLimit(int wanted) {
        if (out(wanted, 1, 9)) {
            return BAD_VALUE;
        }
        int old = limit;
        limit = wanted;
        return old;
    }

    public int clear() {
        int old = items.size();
        items = new ArrayList<>();
        witness = List.of();
        return old;
    }

    private void settle() {
        boolean again = true;
        while (again) {
            again = false;
            for (Item item : items) {
                if (item.state == State.WAITING || item.state == State.READY) {
                    State old = item.state;
                    State next = follows(item);
                    if (next != old) {
                        again = true;
                        item.state = next;
                        if (next == State.READY) {
                            ready(item, item.delay);
                        }
                    }
                }
            }
        }
    }

    private State follows(Item item) {
        boolean all = true;
        boolean broken = false;
        for (Map.Entry<Integer, Integer> edge : item.edges.entrySet()) {
            State from = items.get(edge.getKey()).state;
            boolean lost = from == State.CANCELLED || from == State.DOOMED || from == State.DEAD;
            if (edge.getValue() == 0) {
                all &= from == State.DONE;
                broken |= lost;
            } else {
                all &= from == State.DONE || lost;
            }
        }
        return broken ? State.DOOMED : all ? State.READY : State.WAITING;
    }

    // ---- Work.

    public int receive(int visibility) {
        if (out(visibility, 1, 30)) {
            return BAD_VALUE;
        }
        int best = NONE;
        for (int i = items.size() - 1; i >= 0; i--) {
            Item item = items.get(i);
            long busy = items.stream()
                    .filter(other -> other.state == State.IN_FLIGHT && other.group == item.group)
                    .count();
            if (item.state == State.READY && item.readyTime <= time && busy < limit
                    && (best == NONE || rank(i) >= rank(best))) {
                best = i;
            }
        }
        if (best != NONE) {
            Item item = items.get(best);
            item.state = State.IN_FLIGHT;
            item.receives++;
            item.receipt = ++receipts;
            item.deadline = time + visibility;
        }
        return best;
    }

    public int receipt(int item) {
        if (!is(item)) {
            return BAD_ITEM;
        }
        Integer receipt = items.get(item).receipt;
        return receipt == null ? NONE : receipt;
    }

    private boolean stale(int item, int receipt) {
        Item it = items.get(item);
        return it.state != State.IN_FLIGHT || it.receipt == null || it.receipt != receipt;
    }

    private int count(State state) {
        return Integer.bitCount(itemsIn(state.ordinal()));
    }

    public int finish(int item, int receipt) {
        if (!is(item)) {
            return BAD_ITEM;
        }
        if (stale(item, receipt)) {
            return STALE;
        }
        int old = count(State.READY);
        items.get(item).state = State.DONE;
        settle();
        return count(State.READY) - old;
    }

    public int giveBack(int item, int receipt, int pause) {
        if (!is(item)) {
            return BAD_ITEM;
        }
        if (out(pause, 0, 10)) {
            return BAD_VALUE;
        }
        if (stale(item, receipt)) {
            return STALE;
        }
        Item it = items.get(item);
        returns(it, pause * (int) Math.pow(2, it.receives - 1));
        settle();
        return it.state.ordinal();
    }

    private void returns(Item item, int pause) {
        if (item.receives >= item.attempts) {
            item.state = State.DEAD;
        } else {
            ready(item, pause);
        }
    }

    public int extend(int item, int receipt, int visibility) {
        if (!is(item)) {
            return BAD_ITEM;
        }
        if (out(visibility, 1, 30)) {
            return BAD_VALUE;
        }
        if (stale(item, receipt)) {
            return STALE;
        }
        int old = items.get(item).deadline;
        items.get(item).deadline = time + visibility;
        return old;
    }

    public int cancel(int item) {
        if (!is(item)) {
            return BAD_ITEM;
        }
        if (items.get(item).ended()) {
            return NOT_POSSIBLE;
        }
        int old = count(State.DOOMED);
        items.get(item).state = State.CANCELLED;
        settle();
        return count(State.DOOMED) - old;
    }

    public int revive(int item) {
        if (!is(item)) {
            return BAD_ITEM;
        }
        Item it = items.get(item);
        if (!it.ended() || it.state == State.DONE) {
            return NOT_POSSIBLE;
        }
        it.state = State.WAITING;
        it.receives = 0;
        it.receipt = null;
        settle();
        return it.state.ordinal();
    }

    public int tick(int ticks) {
        if (out(ticks, 1, 30)) {
            return BAD_VALUE;
        }
        int returned = 0;
        for (int i = 0; i < ticks; i++) {
            time++;
            for (Item item : items) {
                if (item.state == State.IN_FLIGHT && item.deadline <= time) {
                    returns(item, 0);
                    returned++;
                }
            }
            settle();
        }
        return returned;
    }

    // ---- Properties.

    public int items() {
        return items.size();
    }

    public int edges() {
        return items.stream().mapToInt(item -> item.edges.size()).sum();
    }

    public int time() {
        return time;
    }

    public int state(int item) {
        return is(item) ? items.get(item).state.ordinal() : BAD_ITEM;
    }

    public int itemsIn(int state) {
        if (out(state, 0, 6)) {
            return BAD_VALUE;
        }
        BitSet set = new BitSet();
        for (int i = 0; i < items.size(); i++) {
            set.set(i, items.get(i).state.ordinal() == state);
        }
        return asInt(set);
    }

    private static int asInt(BitSet set) {
        return set.isEmpty() ? 0 : (int) set.toLongArray()[0];
    }

    public int property(int item, int what) {
        if (!is(item)) {
            return BAD_ITEM;
        }
        if (out(what, 0, 7)) {
            return BAD_VALUE;
        }
        Item it = items.get(item);
        int[] values = {it.priority, it.work, it.attempts, it.group, it.delay, it.receives,
            it.state == State.READY ? it.readyTime : NONE,
            it.state == State.IN_FLIGHT ? it.deadline : NONE};
        return values[what];
    }

    public int edge(int from, int to) {
        if (!is(from) || !is(to)) {
            return BAD_ITEM;
        }
        return items.get(to).edges.getOrDefault(from, NONE);
    }

    public int rank(int item) {
        if (!is(item)) {
            return BAD_ITEM;
        }
        Item it = items.get(item);
        int more = 0;
        if (policy == 1) {
            more = height(item);
        } else if (policy == 2 && it.state == State.READY) {
            more = 10 * (time - it.since);
        }
        return it.priority * 100 + more;
    }

    public int height(int item) {
        return is(item) ? height(item, new HashMap<>()) : BAD_ITEM;
    }

    private int height(int item, Map<Integer, Integer> known) {
        if (!known.containsKey(item)) {
            int best = 0;
            for (int next = 0; next < items.size(); next++) {
                if (items.get(next).edges.containsKey(item)) {
                    best = Math.max(best, height(next, known));
                }
            }
            known.put(item, best + left(item));
        }
        return known.get(item);
    }

    private int left(int item) {
        return items.get(item).ended() ? 0 : items.get(item).work;
    }

    public int before(int item) {
        if (!is(item)) {
            return BAD_ITEM;
        }
        BitSet set = new BitSet();
        collectBefore(item, set);
        return asInt(set);
    }

    private void collectBefore(int item, BitSet set) {
        for (int from : items.get(item).edges.keySet()) {
            if (!set.get(from)) {
                set.set(from);
                collectBefore(from, set);
            }
        }
    }

    /** By a try: the item is cancelled in a copy of the queue. */
    public int wouldDoom(int item) {
        if (!is(item)) {
            return BAD_ITEM;
        }
        if (items.get(item).ended()) {
            return NOT_POSSIBLE;
        }
        Model copy = new Model();
        for (Item it : items) {
            copy.items.add(it.copy());
        }
        copy.cancel(item);
        return copy.itemsIn(5) & ~itemsIn(5);
    }

    public int isSuperfluous(int from, int to) {
        if (!is(from) || !is(to)) {
            return BAD_ITEM;
        }
        Integer kind = items.get(to).edges.remove(from);
        if (kind == null) {
            return NONE;
        }
        int answer = shortestPath(from, to) == null ? 0 : 1;
        items.get(to).edges.put(from, kind);
        return answer;
    }

    // ---- Plans and orders.

    /** The starts of the items by tick after tick; behind them the length of the plan. */
    private int[] plan(int workers, int rule) {
        int n = items.size();
        int[] starts = new int[n + 1];
        int[] ends = new int[n];
        int[] since = new int[n];
        boolean[] started = new boolean[n];
        boolean[] ended = new boolean[n];
        java.util.Arrays.fill(since, -1);
        int planned = 0;
        for (int i = 0; i < n; i++) {
            ended[i] = items.get(i).ended();
            started[i] = ended[i];
            planned += ended[i] ? 0 : 1;
        }
        int free = workers;
        int done = 0;
        for (int now = 0; done < planned; now++) {
            for (int i = 0; i < n; i++) {
                if (started[i] && !ended[i] && ends[i] == now) {
                    ended[i] = true;
                    free++;
                    done++;
                    starts[n] = now;
                }
            }
            while (free > 0) {
                int best = -1;
                int bestRank = -1;
                for (int i = 0; i < n; i++) {
                    boolean can = !started[i];
                    for (int from : items.get(i).edges.keySet()) {
                        can &= ended[from];
                    }
                    if (can) {
                        since[i] = since[i] < 0 ? now : since[i];
                        int rank = items.get(i).priority * 100
                                + (rule == 1 ? height(i) : rule == 2 ? 10 * (now - since[i]) : 0);
                        if (rank > bestRank) {
                            best = i;
                            bestRank = rank;
                        }
                    }
                }
                if (best < 0) {
                    break;
                }
                started[best] = true;
                starts[best] = now;
                ends[best] = now + items.get(best).work;
                free--;
            }
        }
        return starts;
    }

    public int planLength(int workers, int rule) {
        if (out(workers, 1, 6) || out(rule, 0, 2)) {
            return BAD_VALUE;
        }
        return plan(workers, rule)[items.size()];
    }

    public int planStart(int item, int workers, int rule) {
        if (!is(item)) {
            return BAD_ITEM;
        }
        if (out(workers, 1, 6) || out(rule, 0, 2)) {
            return BAD_VALUE;
        }
        return items.get(item).ended() ? NONE : plan(workers, rule)[item];
    }

    public int bestWorkers(int rule) {
        if (out(rule, 0, 2)) {
            return BAD_VALUE;
        }
        int best = 6;
        for (int workers = 5; workers >= 1; workers--) {
            if (planLength(workers, rule) <= planLength(best, rule)) {
                best = workers;
            }
        }
        return best;
    }

    public int slack(int item) {
        if (!is(item)) {
            return BAD_ITEM;
        }
        if (items.get(item).ended()) {
            return NOT_POSSIBLE;
        }
        int greatest = 0;
        for (int i = 0; i < items.size(); i++) {
            if (!items.get(i).ended()) {
                greatest = Math.max(greatest, height(i));
            }
        }
        return greatest - height(item) - lead(item, new HashMap<>());
    }

    private int lead(int item, Map<Integer, Integer> known) {
        if (!known.containsKey(item)) {
            int best = 0;
            for (int from : items.get(item).edges.keySet()) {
                best = Math.max(best, lead(from, known) + left(from));
            }
            known.put(item, best);
        }
        return known.get(item);
    }

    private int open() {
        return itemsIn(0) | itemsIn(1) | itemsIn(2);
    }

    private int[] befores() {
        int[] befores = new int[items.size()];
        for (int i = 0; i < befores.length; i++) {
            befores[i] = before(i);
        }
        return befores;
    }

    public int width() {
        int[] befores = befores();
        int[] tied = befores.clone();
        for (int i = 0; i < tied.length; i++) {
            for (int k = 0; k < tied.length; k++) {
                tied[i] |= (befores[k] >> i & 1) << k;
            }
        }
        return widest(open(), tied);
    }

    /** With the lowest item, or without it. */
    private static int widest(int set, int[] tied) {
        if (set == 0) {
            return 0;
        }
        int item = Integer.numberOfTrailingZeros(set);
        int rest = set & ~(1 << item);
        int with = 1 + widest(rest & ~tied[item], tied);
        return (rest & tied[item]) == 0 ? with : Math.max(with, widest(rest, tied));
    }

    public long orders() {
        if (Integer.bitCount(open()) > 12) {
            return NOT_POSSIBLE;
        }
        return orders(open(), befores(), new HashMap<>());
    }

    private static long orders(int left, int[] befores, Map<Integer, Long> known) {
        if (left == 0) {
            return 1;
        }
        Long old = known.get(left);
        if (old != null) {
            return old;
        }
        long sum = 0;
        for (int i = 0; i < befores.length; i++) {
            if ((left >> i & 1) == 1 && (befores[i] & left) == 0) {
                sum += orders(left & ~(1 << i), befores, known);
            }
        }
        known.put(left, sum);
        return sum;
    }

    // ---- The text.

    public int write(int code) {
        if (out(code, 32, 126)) {
            return BAD_VALUE;
        }
        if (text.length() == 200) {
            return FULL;
        }
        text.append((char) code);
        return text.length();
    }

    public int wipe() {
        int old = text.length();
        text.setLength(0);
        return old;
    }

    public int fault() {
        return parse(new ArrayList<>());
    }

    private enum Place { FIRST, LETTER, NUMBER, NUMBER_OR_SIGN, SIGN }

    /** Character by character; the end of the text is one more that stands nowhere. */
    private int parse(List<Item> read) {
        Place place = Place.FIRST;
        int begin = 0;
        int kind = NONE;
        for (int i = 0; i <= text.length(); i++) {
            char sign = i < text.length() ? text.charAt(i) : '\n';
            boolean digit = sign >= '0' && sign <= '9';
            if (place == Place.NUMBER_OR_SIGN && (!digit || i == begin + 1)) {
                int stop = digit ? i + 1 : i;
                if (!accept(read, Integer.parseInt(text.substring(begin, stop)), kind)) {
                    return begin;
                }
                place = Place.SIGN;
                if (digit) {
                    continue;
                }
            }
            if (place == Place.FIRST && i == text.length()) {
                return NONE;
            } else if (place == Place.FIRST && digit && read.size() < 20) {
                read.add(newItem(sign - '0', 0, 3, 0, 0));
                place = Place.LETTER;
            } else if (place == Place.LETTER && sign == 'w') {
                place = Place.NUMBER;
                kind = NONE;
            } else if (place == Place.NUMBER && digit) {
                place = Place.NUMBER_OR_SIGN;
                begin = i;
            } else if (place == Place.SIGN && (sign == '<' || sign == '!')) {
                place = Place.NUMBER;
                kind = sign == '<' ? 0 : 1;
            } else if (place == Place.SIGN && sign == ';') {
                place = Place.FIRST;
            } else {
                return i;
            }
        }
        return NONE;
    }

    private static boolean accept(List<Item> read, int number, int kind) {
        Item last = read.get(read.size() - 1);
        if (kind == NONE) {
            last.work = number;
            return number >= 1 && number <= 20;
        }
        return number < read.size() - 1 && last.edges.put(number, kind) == null;
    }

    public int load() {
        List<Item> read = new ArrayList<>();
        if (parse(read) != NONE) {
            return NOT_POSSIBLE;
        }
        items = read;
        witness = List.of();
        settle();
        return items.size();
    }

    // ---- Saved queues.

    public int save(int slot) {
        if (out(slot, 0, 1)) {
            return BAD_VALUE;
        }
        Saved saved = new Saved();
        for (Item item : items) {
            saved.items.add(item.copy());
        }
        saved.time = time;
        saved.policy = policy;
        saved.limit = limit;
        saved.receipts = receipts;
        slots.put(slot, saved);
        return items.size();
    }

    public int restore(int slot) {
        if (out(slot, 0, 1)) {
            return BAD_VALUE;
        }
        Saved saved = slots.get(slot);
        if (saved == null) {
            return NOT_POSSIBLE;
        }
        items = new ArrayList<>();
        for (Item item : saved.items) {
            items.add(item.copy());
        }
        time = saved.time;
        policy = saved.policy;
        limit = saved.limit;
        receipts = saved.receipts;
        witness = List.of();
        return items.size();
    }
}
