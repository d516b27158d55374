/**
 * A work queue whose items have happens-after edges instead of one order.
 * Its document, with the numbered promises, is ../shared/DOC.md.
 *
 * Sets of items are ints in which bit i stands for item i.
 */
public final class DependencyQueue {
    public static final int BAD_ITEM = -1;
    public static final int BAD_VALUE = -2;
    public static final int FULL = -3;
    public static final int NOT_POSSIBLE = -4;
    public static final int CYCLE = -5;
    public static final int STALE = -6;
    public static final int NONE = -7;

    private static final int MAX_ITEMS = 20;
    private static final int MAX_PRIORITY = 9;
    private static final int MAX_WORK = 20;
    private static final int MAX_ATTEMPTS = 5;
    private static final int MAX_GROUP = 3;
    private static final int MAX_DELAY = 20;
    private static final int MAX_GROUP_LIMIT = 9;
    private static final int MAX_TICKS = 30;
    private static final int MAX_PAUSE = 10;
    private static final int MAX_WORKERS = 6;
    private static final int MAX_ORDERED = 12;
    private static final int MAX_TEXT = 200;
    private static final int SLOTS = 2;
    /** Far more passes over the items than any change can need; see the loops that use it. */
    private static final int MAX_PASSES = 1000;

    private static final int WAITING = 0;
    private static final int READY = 1;
    private static final int IN_FLIGHT = 2;
    private static final int DONE = 3;
    private static final int CANCELLED = 4;
    private static final int DOOMED = 5;
    private static final int DEAD = 6;

    private static final int SUCCESS = 0;
    private static final int END = 1;

    private static final int BY_HEIGHT = 1;
    private static final int BY_AGE = 2;
    private static final int MAX_POLICY = 2;

    private static final int TEXT_ATTEMPTS = 3;

    private final Queue queue = new Queue();
    private final Queue[] saved = new Queue[SLOTS];
    private final Paths paths = new Paths(queue);
    private final Witness cyclePath = new Witness();
    private final Plan plan = new Plan();
    private final ChainCover cover = new ChainCover();
    private final OrderCount orderCount = new OrderCount();
    private final Text text = new Text();

    public DependencyQueue() {
    }

    // ---- Items and edges.

    public int add(int priority, int work, int attempts, int group, int delay) {
        boolean allowed = isWithin(priority, 0, MAX_PRIORITY)
                && isWithin(work, 1, MAX_WORK)
                && isWithin(attempts, 1, MAX_ATTEMPTS)
                && isWithin(group, 0, MAX_GROUP)
                && isWithin(delay, 0, MAX_DELAY);
        if (!allowed) {
            return BAD_VALUE;
        }
        if (queue.isFull()) {
            return FULL;
        }
        int item = queue.append(priority, work, attempts, group, delay);
        queue.makeReady(item, delay);
        return item;
    }

    public int link(int from, int to, int kind) {
        if (!queue.holds(from) || !queue.holds(to)) {
            return BAD_ITEM;
        }
        if (!isWithin(kind, SUCCESS, END)) {
            return BAD_VALUE;
        }
        if (from == to || Bits.has(paths.beforeSets()[from], to)) {
            cyclePath.remember(queue, to, from);
            return CYCLE;
        }
        if (!queue.followsEdges(to)) {
            return NOT_POSSIBLE;
        }
        queue.putEdge(from, to, kind);
        queue.settle();
        return queue.edgeCount();
    }

    public int witness(int k) {
        if (k < 0) {
            return BAD_VALUE;
        }
        return k < cyclePath.length ? cyclePath.path[k] : NONE;
    }

    public int unlink(int from, int to) {
        if (!queue.holds(from) || !queue.holds(to)) {
            return BAD_ITEM;
        }
        if (!Bits.has(queue.predecessors(to), from) || !queue.followsEdges(to)) {
            return NOT_POSSIBLE;
        }
        queue.dropEdge(from, to);
        queue.settle();
        return queue.edgeCount();
    }

    public int setPriority(int item, int priority) {
        if (!queue.holds(item)) {
            return BAD_ITEM;
        }
        if (!isWithin(priority, 0, MAX_PRIORITY)) {
            return BAD_VALUE;
        }
        if (queue.hasEnded(item)) {
            return NOT_POSSIBLE;
        }
        int previous = queue.priority[item];
        queue.priority[item] = priority;
        return previous;
    }

    public int setPolicy(int policy) {
        if (!isWithin(policy, 0, MAX_POLICY)) {
            return BAD_VALUE;
        }
        int previous = queue.policy;
        queue.policy = policy;
        return previous;
    }

    public int setGroupLimit(int limit) {
        if (!isWithin(limit, 1, MAX_GROUP_LIMIT)) {
            return BAD_VALUE;
        }
        int previous = queue.groupLimit;
        queue.groupLimit = limit;
        return previous;
    }

    public int clear() {
        int previous = queue.count;
        queue.removeItems();
        cyclePath.forget();
        return previous;
    }

    // ---- Work.

    public int receive(int visibility) {
        if (!isWithin(visibility, 1, MAX_TICKS)) {
            return BAD_VALUE;
        }
        int item = queue.nextToReceive(paths.heights());
        if (queue.holds(item)) {
            queue.takeOut(item, visibility);
        }
        return item;
    }

    public int receipt(int item) {
        return queue.holds(item) ? queue.receipt[item] : BAD_ITEM;
    }

    public int finish(int item, int receipt) {
        if (!queue.holds(item)) {
            return BAD_ITEM;
        }
        if (!queue.isValid(item, receipt)) {
            return STALE;
        }
        return queue.endAs(item, DONE, READY);
    }

    public int giveBack(int item, int receipt, int pause) {
        if (!queue.holds(item)) {
            return BAD_ITEM;
        }
        if (!isWithin(pause, 0, MAX_PAUSE)) {
            return BAD_VALUE;
        }
        if (!queue.isValid(item, receipt)) {
            return STALE;
        }
        queue.comeBack(item, pause * (1 << (queue.receives[item] - 1)));
        queue.settle();
        return queue.state[item];
    }

    public int extend(int item, int receipt, int visibility) {
        if (!queue.holds(item)) {
            return BAD_ITEM;
        }
        if (!isWithin(visibility, 1, MAX_TICKS)) {
            return BAD_VALUE;
        }
        if (!queue.isValid(item, receipt)) {
            return STALE;
        }
        int previous = queue.deadline[item];
        queue.deadline[item] = queue.now + visibility;
        return previous;
    }

    public int cancel(int item) {
        if (!queue.holds(item)) {
            return BAD_ITEM;
        }
        if (queue.hasEnded(item)) {
            return NOT_POSSIBLE;
        }
        return queue.endAs(item, CANCELLED, DOOMED);
    }

    public int revive(int item) {
        if (!queue.holds(item)) {
            return BAD_ITEM;
        }
        if (!queue.hasFailed(item)) {
            return NOT_POSSIBLE;
        }
        queue.startAnew(item);
        queue.settle();
        return queue.state[item];
    }

    public int tick(int ticks) {
        if (!isWithin(ticks, 1, MAX_TICKS)) {
            return BAD_VALUE;
        }
        int returned = 0;
        for (int i = 0; i < ticks; i++) {
            returned += queue.passTick();
        }
        return returned;
    }

    // ---- Properties.

    public int items() {
        return queue.count;
    }

    public int edges() {
        return queue.edgeCount();
    }

    public int time() {
        return queue.now;
    }

    public int state(int item) {
        return queue.holds(item) ? queue.state[item] : BAD_ITEM;
    }

    public int itemsIn(int state) {
        return isWithin(state, WAITING, DEAD) ? queue.setIn(state) : BAD_VALUE;
    }

    public int property(int item, int what) {
        if (!queue.holds(item)) {
            return BAD_ITEM;
        }
        switch (what) {
            case 0:
                return queue.priority[item];
            case 1:
                return queue.work[item];
            case 2:
                return queue.attempts[item];
            case 3:
                return queue.group[item];
            case 4:
                return queue.delay[item];
            case 5:
                return queue.receives[item];
            case 6:
                return queue.state[item] == READY ? queue.readyTime[item] : NONE;
            case 7:
                return queue.state[item] == IN_FLIGHT ? queue.deadline[item] : NONE;
            default:
                return BAD_VALUE;
        }
    }

    public int edge(int from, int to) {
        if (!queue.holds(from) || !queue.holds(to)) {
            return BAD_ITEM;
        }
        return queue.edgeKind(from, to);
    }

    public int rank(int item) {
        if (!queue.holds(item)) {
            return BAD_ITEM;
        }
        return queue.rankNow(item, paths.heights()[item]);
    }

    public int height(int item) {
        return queue.holds(item) ? paths.heights()[item] : BAD_ITEM;
    }

    public int before(int item) {
        return queue.holds(item) ? paths.beforeSets()[item] : BAD_ITEM;
    }

    public int wouldDoom(int item) {
        if (!queue.holds(item)) {
            return BAD_ITEM;
        }
        if (queue.hasEnded(item)) {
            return NOT_POSSIBLE;
        }
        return queue.doomedBy(item);
    }

    public int isSuperfluous(int from, int to) {
        if (!queue.holds(from) || !queue.holds(to)) {
            return BAD_ITEM;
        }
        if (!Bits.has(queue.predecessors(to), from)) {
            return NONE;
        }
        return paths.hasDetour(from, to) ? 1 : 0;
    }

    // ---- Plans and orders.

    public int planLength(int workers, int policy) {
        if (!isWithin(workers, 1, MAX_WORKERS) || !isWithin(policy, 0, MAX_POLICY)) {
            return BAD_VALUE;
        }
        plan.make(queue, paths.heights(), workers, policy);
        return plan.length;
    }

    public int planStart(int item, int workers, int policy) {
        if (!queue.holds(item)) {
            return BAD_ITEM;
        }
        if (!isWithin(workers, 1, MAX_WORKERS) || !isWithin(policy, 0, MAX_POLICY)) {
            return BAD_VALUE;
        }
        if (queue.hasEnded(item)) {
            return NONE;
        }
        plan.make(queue, paths.heights(), workers, policy);
        return plan.start[item];
    }

    public int bestWorkers(int policy) {
        if (!isWithin(policy, 0, MAX_POLICY)) {
            return BAD_VALUE;
        }
        int[] heights = paths.heights();
        plan.make(queue, heights, 1, policy);
        int best = 1;
        int shortest = plan.length;
        // More workers can make a plan longer, so every number is tried.
        for (int workers = 2; workers <= MAX_WORKERS; workers++) {
            plan.make(queue, heights, workers, policy);
            if (plan.length < shortest) {
                best = workers;
                shortest = plan.length;
            }
        }
        return best;
    }

    public int slack(int item) {
        if (!queue.holds(item)) {
            return BAD_ITEM;
        }
        if (queue.hasEnded(item)) {
            return NOT_POSSIBLE;
        }
        int[] heights = paths.heights();
        int greatest = 0;
        for (int i = 0; i < queue.count; i++) {
            if (!queue.hasEnded(i)) {
                greatest = Math.max(greatest, heights[i]);
            }
        }
        return greatest - heights[item] - paths.leads()[item];
    }

    public int width() {
        int open = queue.unendedSet();
        return Integer.bitCount(open) - cover.countPairs(open, paths.beforeSets());
    }

    public long orders() {
        int open = queue.unendedSet();
        if (Integer.bitCount(open) > MAX_ORDERED) {
            return NOT_POSSIBLE;
        }
        return orderCount.countFor(open, paths.beforeSets());
    }

    // ---- The text.

    public int write(int code) {
        if (!isWithin(code, 32, 126)) {
            return BAD_VALUE;
        }
        if (text.length >= MAX_TEXT) {
            return FULL;
        }
        text.append(code);
        return text.length;
    }

    public int wipe() {
        int previous = text.length;
        text.length = 0;
        return previous;
    }

    public int fault() {
        return text.read();
    }

    public int load() {
        if (text.read() != NONE) {
            return NOT_POSSIBLE;
        }
        queue.copyItems(text.draft);
        queue.settle();
        cyclePath.forget();
        return queue.count;
    }

    // ---- Saved queues.

    public int save(int slot) {
        if (!isWithin(slot, 0, SLOTS - 1)) {
            return BAD_VALUE;
        }
        if (saved[slot] == null) {
            saved[slot] = new Queue();
        }
        saved[slot].copyAll(queue);
        return queue.count;
    }

    public int restore(int slot) {
        if (!isWithin(slot, 0, SLOTS - 1)) {
            return BAD_VALUE;
        }
        if (saved[slot] == null) {
            return NOT_POSSIBLE;
        }
        queue.copyAll(saved[slot]);
        cyclePath.forget();
        return queue.count;
    }

    private static boolean isWithin(int value, int least, int greatest) {
        return value >= least && value <= greatest;
    }

    /** Sets of items. */
    private static final class Bits {
        static boolean has(int set, int item) {
            return (set >> item & 1) != 0;
        }
    }

    /** The items with their edges and states, and all that is saved with them. */
    private static final class Queue {
        int count = 0;
        int now = 0;
        int policy = 0;
        int groupLimit = MAX_GROUP_LIMIT;
        int receipts = 0;

        final int[] priority = new int[MAX_ITEMS];
        final int[] work = new int[MAX_ITEMS];
        final int[] attempts = new int[MAX_ITEMS];
        final int[] group = new int[MAX_ITEMS];
        final int[] delay = new int[MAX_ITEMS];
        final int[] state = new int[MAX_ITEMS];
        final int[] readyTime = new int[MAX_ITEMS];
        final int[] readySince = new int[MAX_ITEMS];
        final int[] deadline = new int[MAX_ITEMS];
        final int[] receives = new int[MAX_ITEMS];
        /** For each item its latest receipt, or NONE. */
        final int[] receipt = new int[MAX_ITEMS];
        /** For each item the set of its predecessors by success edges. */
        final int[] needDone = new int[MAX_ITEMS];
        /** For each item the set of its predecessors by end edges. */
        final int[] needEnd = new int[MAX_ITEMS];

        boolean holds(int item) {
            return item >= 0 && item < count;
        }

        boolean isFull() {
            return count >= MAX_ITEMS;
        }

        boolean hasEnded(int item) {
            return state[item] >= DONE;
        }

        boolean hasFailed(int item) {
            return state[item] > DONE;
        }

        /** Only the state of a waiting or ready item follows from its edges. */
        boolean followsEdges(int item) {
            return state[item] == WAITING || state[item] == READY;
        }

        boolean isValid(int item, int shown) {
            return state[item] == IN_FLIGHT && receipt[item] == shown;
        }

        int workLeft(int item) {
            return hasEnded(item) ? 0 : work[item];
        }

        int setIn(int wanted) {
            int set = 0;
            for (int i = 0; i < count; i++) {
                if (state[i] == wanted) {
                    set |= 1 << i;
                }
            }
            return set;
        }

        int unendedSet() {
            return setIn(WAITING) | setIn(READY) | setIn(IN_FLIGHT);
        }

        /** Adds a waiting item at the end; the caller has seen that there is room. */
        int append(int itsPriority, int itsWork, int itsAttempts, int itsGroup, int itsDelay) {
            int item = count;
            count++;
            priority[item] = itsPriority;
            work[item] = itsWork;
            attempts[item] = itsAttempts;
            group[item] = itsGroup;
            delay[item] = itsDelay;
            needDone[item] = 0;
            needEnd[item] = 0;
            startAnew(item);
            return item;
        }

        void startAnew(int item) {
            state[item] = WAITING;
            receives[item] = 0;
            receipt[item] = NONE;
        }

        void makeReady(int item, int pause) {
            state[item] = READY;
            readyTime[item] = now + pause;
            readySince[item] = now;
        }

        void removeItems() {
            count = 0;
        }

        int predecessors(int item) {
            return needDone[item] | needEnd[item];
        }

        int edgeCount() {
            int edges = 0;
            for (int i = 0; i < count; i++) {
                edges += Integer.bitCount(predecessors(i));
            }
            return edges;
        }

        int edgeKind(int from, int to) {
            if (Bits.has(needDone[to], from)) {
                return SUCCESS;
            }
            return Bits.has(needEnd[to], from) ? END : NONE;
        }

        void putEdge(int from, int to, int kind) {
            dropEdge(from, to);
            if (kind == SUCCESS) {
                needDone[to] |= 1 << from;
            } else {
                needEnd[to] |= 1 << from;
            }
        }

        void dropEdge(int from, int to) {
            needDone[to] &= ~(1 << from);
            needEnd[to] &= ~(1 << from);
        }

        /** Within one call an item changes a few times at most, so the passes come to an end. */
        void settle() {
            boolean changed = true;
            for (int pass = 0; changed && pass < MAX_PASSES; pass++) {
                changed = false;
                for (int i = 0; i < count; i++) {
                    if (settleItem(i)) {
                        changed = true;
                    }
                }
            }
        }

        private boolean settleItem(int item) {
            if (!followsEdges(item)) {
                return false;
            }
            int due = stateByEdges(item);
            if (due == state[item]) {
                return false;
            }
            if (due == READY) {
                makeReady(item, delay[item]);
            } else {
                state[item] = due;
            }
            return true;
        }

        private int stateByEdges(int item) {
            int due = READY;
            for (int i = 0; i < count; i++) {
                if (Bits.has(needDone[item], i) && hasFailed(i)) {
                    return DOOMED;
                }
                if (Bits.has(predecessors(item), i) && !hasEnded(i)) {
                    due = WAITING;
                }
            }
            return due;
        }

        /** Answers how many items come to be in the watched state by this. */
        int endAs(int item, int itsEnd, int watched) {
            int previous = setIn(watched);
            state[item] = itsEnd;
            settle();
            return Integer.bitCount(setIn(watched) & ~previous);
        }

        void comeBack(int item, int pause) {
            if (receives[item] >= attempts[item]) {
                state[item] = DEAD;
            } else {
                makeReady(item, pause);
            }
        }

        int passTick() {
            now++;
            int returned = 0;
            for (int i = 0; i < count; i++) {
                if (state[i] == IN_FLIGHT && deadline[i] <= now) {
                    comeBack(i, 0);
                    returned++;
                }
            }
            // Between calls states are settled, so only an item that has returned can unsettle them.
            if (returned > 0) {
                settle();
            }
            return returned;
        }

        int rankFor(int item, int rule, int height, int waited) {
            int rank = priority[item] * 100;
            if (rule == BY_HEIGHT) {
                rank += height;
            }
            if (rule == BY_AGE) {
                rank += 10 * waited;
            }
            return rank;
        }

        int rankNow(int item, int height) {
            int waited = state[item] == READY ? now - readySince[item] : 0;
            return rankFor(item, policy, height, waited);
        }

        /** NONE if no item can be received. */
        int nextToReceive(int[] heights) {
            int best = NONE;
            int bestRank = 0;
            for (int i = 0; i < count; i++) {
                if (canBeReceived(i)) {
                    int rank = rankNow(i, heights[i]);
                    if (best == NONE || rank > bestRank) {
                        best = i;
                        bestRank = rank;
                    }
                }
            }
            return best;
        }

        private boolean canBeReceived(int item) {
            return state[item] == READY && readyTime[item] <= now
                    && inFlightOf(group[item]) < groupLimit;
        }

        private int inFlightOf(int wanted) {
            int found = 0;
            for (int i = 0; i < count; i++) {
                if (state[i] == IN_FLIGHT && group[i] == wanted) {
                    found++;
                }
            }
            return found;
        }

        void takeOut(int item, int visibility) {
            receipts++;
            state[item] = IN_FLIGHT;
            deadline[item] = now + visibility;
            receives[item]++;
            receipt[item] = receipts;
        }

        /** The items that become doomed if this one is cancelled; items in flight are spared. */
        int doomedBy(int item) {
            int lost = 1 << item;
            boolean changed = true;
            for (int pass = 0; changed && pass < MAX_PASSES; pass++) {
                changed = false;
                for (int i = 0; i < count; i++) {
                    if (followsEdges(i) && !Bits.has(lost, i) && (needDone[i] & lost) != 0) {
                        lost |= 1 << i;
                        changed = true;
                    }
                }
            }
            return lost & ~(1 << item);
        }

        void copyAll(Queue other) {
            copyItems(other);
            now = other.now;
            policy = other.policy;
            groupLimit = other.groupLimit;
            receipts = other.receipts;
        }

        void copyItems(Queue other) {
            count = other.count;
            copyRow(other.priority, priority);
            copyRow(other.work, work);
            copyRow(other.attempts, attempts);
            copyRow(other.group, group);
            copyRow(other.delay, delay);
            copyRow(other.state, state);
            copyRow(other.readyTime, readyTime);
            copyRow(other.readySince, readySince);
            copyRow(other.deadline, deadline);
            copyRow(other.receives, receives);
            copyRow(other.receipt, receipt);
            copyRow(other.needDone, needDone);
            copyRow(other.needEnd, needEnd);
        }

        private static void copyRow(int[] from, int[] to) {
            System.arraycopy(from, 0, to, 0, MAX_ITEMS);
        }
    }

    /** What follows from the paths of edges. The rows it answers hold until it is asked again. */
    private static final class Paths {
        private final Queue queue;
        private final int[] beforeRow = new int[MAX_ITEMS];
        private final int[] heightRow = new int[MAX_ITEMS];
        private final int[] leadRow = new int[MAX_ITEMS];

        Paths(Queue queue) {
            this.queue = queue;
        }

        /** For each item the set of the items before it; paths may lead through ended items. */
        int[] beforeSets() {
            for (int i = 0; i < queue.count; i++) {
                beforeRow[i] = queue.predecessors(i);
            }
            // Warshall's way: after the round of an item, paths through it are known.
            for (int middle = 0; middle < queue.count; middle++) {
                for (int i = 0; i < queue.count; i++) {
                    if (Bits.has(beforeRow[i], middle)) {
                        beforeRow[i] |= beforeRow[middle];
                    }
                }
            }
            return beforeRow;
        }

        boolean hasDetour(int from, int to) {
            int[] sets = beforeSets();
            for (int i = 0; i < queue.count; i++) {
                if (Bits.has(queue.predecessors(to), i) && Bits.has(sets[i], from)) {
                    return true;
                }
            }
            return false;
        }

        int[] heights() {
            for (int i = 0; i < queue.count; i++) {
                heightRow[i] = queue.workLeft(i);
            }
            boolean changed = true;
            for (int pass = 0; changed && pass < MAX_PASSES; pass++) {
                changed = false;
                for (int i = 0; i < queue.count; i++) {
                    if (raisePredecessors(i)) {
                        changed = true;
                    }
                }
            }
            return heightRow;
        }

        private boolean raisePredecessors(int item) {
            int set = queue.predecessors(item);
            boolean raised = false;
            for (int i = 0; set != 0 && i < queue.count; i++) {
                int sum = queue.workLeft(i) + heightRow[item];
                if (Bits.has(set, i) && sum > heightRow[i]) {
                    heightRow[i] = sum;
                    raised = true;
                }
            }
            return raised;
        }

        /** For each item the greatest sum of the work on a path that ends just before it. */
        int[] leads() {
            for (int i = 0; i < queue.count; i++) {
                leadRow[i] = 0;
            }
            boolean changed = true;
            for (int pass = 0; changed && pass < MAX_PASSES; pass++) {
                changed = false;
                for (int i = 0; i < queue.count; i++) {
                    if (raiseLead(i)) {
                        changed = true;
                    }
                }
            }
            return leadRow;
        }

        private boolean raiseLead(int item) {
            int set = queue.predecessors(item);
            boolean raised = false;
            for (int i = 0; set != 0 && i < queue.count; i++) {
                int sum = leadRow[i] + queue.workLeft(i);
                if (Bits.has(set, i) && sum > leadRow[item]) {
                    leadRow[item] = sum;
                    raised = true;
                }
            }
            return raised;
        }
    }

    /** The path that the latest refused edge would have closed to a cycle. */
    private static final class Witness {
        int length = 0;
        final int[] path = new int[MAX_ITEMS];
        /** For each number of edges the set of the items with so long a path to the last one. */
        private final int[] ring = new int[MAX_ITEMS];

        void forget() {
            length = 0;
        }

        void remember(Queue queue, int first, int last) {
            int distance = drawRings(queue, first, last);
            path[0] = first;
            length = distance + 1;
            for (int i = 1; i <= distance; i++) {
                path[i] = lowestSuccessor(queue, path[i - 1], ring[distance - i]);
            }
        }

        /** Answers the fewest edges from the first item to the last one. */
        private int drawRings(Queue queue, int first, int last) {
            ring[0] = 1 << last;
            int distance = 0;
            while (distance < MAX_ITEMS - 1 && !Bits.has(ring[distance], first)) {
                ring[distance + 1] = predecessorsOfAll(queue, ring[distance]);
                distance++;
            }
            return distance;
        }

        private static int predecessorsOfAll(Queue queue, int set) {
            int found = 0;
            for (int i = 0; i < queue.count; i++) {
                if (Bits.has(set, i)) {
                    found |= queue.predecessors(i);
                }
            }
            return found;
        }

        private static int lowestSuccessor(Queue queue, int item, int allowed) {
            for (int i = 0; i < queue.count; i++) {
                if (Bits.has(allowed, i) && Bits.has(queue.predecessors(i), item)) {
                    return i;
                }
            }
            return NONE;
        }
    }

    /** A plan of the remaining work; it goes from one end of an item to the next. */
    private static final class Plan {
        /** The time up to which the plan has been made; in the end, its length. */
        int length = 0;
        /** For each item the time at which the plan starts it. */
        final int[] start = new int[MAX_ITEMS];
        private final int[] end = new int[MAX_ITEMS];
        /** When the item could be started first. */
        private final int[] since = new int[MAX_ITEMS];
        private int unstarted = 0;
        private int startable = 0;
        private int running = 0;
        private int free = 0;

        void make(Queue queue, int[] heights, int workers, int policy) {
            unstarted = queue.unendedSet();
            startable = 0;
            running = 0;
            free = workers;
            length = 0;
            // At each time but the first one an item ends.
            for (int turn = 0; turn <= MAX_ITEMS && (unstarted | running) != 0; turn++) {
                endCompleted(queue.count);
                findStartable(queue);
                startItems(queue, heights, policy);
                length = nextEnd(queue.count);
            }
        }

        private void endCompleted(int count) {
            for (int i = 0; i < count; i++) {
                if (Bits.has(running, i) && end[i] <= length) {
                    running &= ~(1 << i);
                    free++;
                }
            }
        }

        /** An edge to an item that has not ended is never broken, so ended predecessors satisfy it. */
        private void findStartable(Queue queue) {
            int notEnded = unstarted | running;
            int candidates = unstarted & ~startable;
            for (int i = 0; i < queue.count; i++) {
                if (Bits.has(candidates, i) && (queue.predecessors(i) & notEnded) == 0) {
                    startable |= 1 << i;
                    since[i] = length;
                }
            }
        }

        private void startItems(Queue queue, int[] heights, int policy) {
            for (int turn = 0; turn < MAX_WORKERS && free > 0 && startable != 0; turn++) {
                int item = bestStartable(queue, heights, policy);
                if (queue.holds(item)) {
                    startable &= ~(1 << item);
                    unstarted &= ~(1 << item);
                    running |= 1 << item;
                    free--;
                    start[item] = length;
                    end[item] = length + queue.work[item];
                }
            }
        }

        private int bestStartable(Queue queue, int[] heights, int policy) {
            int best = NONE;
            int bestRank = 0;
            for (int i = 0; i < queue.count; i++) {
                if (Bits.has(startable, i)) {
                    int rank = queue.rankFor(i, policy, heights[i], length - since[i]);
                    if (best == NONE || rank > bestRank) {
                        best = i;
                        bestRank = rank;
                    }
                }
            }
            return best;
        }

        /** The present time if nothing is running. */
        private int nextEnd(int count) {
            int next = length;
            for (int i = 0; i < count; i++) {
                if (Bits.has(running, i) && (next == length || end[i] < next)) {
                    next = end[i];
                }
            }
            return next;
        }
    }

    /**
     * Covers the items by as few chains as possible. By Dilworth's theorem the number of chains is
     * the width, and it is the number of items less that of the pairs of neighbours in a chain.
     */
    private static final class ChainCover {
        /** For each item the one after it in its chain, or NONE. */
        private final int[] next = new int[MAX_ITEMS];
        /** For each item the one ahead of it in its chain, or NONE. */
        private final int[] previous = new int[MAX_ITEMS];
        /** For each item that the search reached, the item it was reached from. */
        private final int[] origin = new int[MAX_ITEMS];

        int countPairs(int open, int[] beforeSets) {
            for (int i = 0; i < MAX_ITEMS; i++) {
                next[i] = NONE;
                previous[i] = NONE;
            }
            int pairs = 0;
            for (int i = 0; i < MAX_ITEMS; i++) {
                if (Bits.has(open, i) && findNext(i, open, beforeSets)) {
                    pairs++;
                }
            }
            return pairs;
        }

        /** Finds a next item for this one; others may have to change theirs for it. */
        private boolean findNext(int first, int open, int[] beforeSets) {
            int unreached = open;
            int seekers = 1 << first;
            for (int turn = 0; turn < MAX_ITEMS && seekers != 0; turn++) {
                int robbed = 0;
                for (int i = 0; i < MAX_ITEMS; i++) {
                    int seeker = Bits.has(unreached, i) ? lowestOf(seekers & beforeSets[i]) : NONE;
                    if (seeker != NONE) {
                        unreached &= ~(1 << i);
                        origin[i] = seeker;
                        if (previous[i] == NONE) {
                            pairAlong(i);
                            return true;
                        }
                        robbed |= 1 << previous[i];
                    }
                }
                seekers = robbed;
            }
            return false;
        }

        private static int lowestOf(int set) {
            for (int i = 0; i < MAX_ITEMS; i++) {
                if (Bits.has(set, i)) {
                    return i;
                }
            }
            return NONE;
        }

        /** Pairs each item on the search's way with the one it was reached from. */
        private void pairAlong(int last) {
            int item = last;
            for (int turn = 0; turn < MAX_ITEMS && item != NONE; turn++) {
                int seeker = origin[item];
                int lost = next[seeker];
                next[seeker] = item;
                previous[item] = seeker;
                item = lost;
            }
        }
    }

    /** Counts orders by the sets of items that can stand at their beginning. */
    private static final class OrderCount {
        private final long[] ways = new long[1 << MAX_ORDERED];
        /** The items to be ordered, numbered anew from 0, so that sets of them stay small. */
        private final int[] member = new int[MAX_ORDERED];
        private final int[] need = new int[MAX_ORDERED];

        /** The caller has seen that there are not too many items. */
        long countFor(int open, int[] beforeSets) {
            int count = listMembers(open);
            listNeeds(count, beforeSets);
            int all = (1 << count) - 1;
            for (int set = 0; set <= all; set++) {
                ways[set] = 0;
            }
            ways[0] = 1;
            for (int set = 0; set < all; set++) {
                if (ways[set] != 0) {
                    goOnFrom(set, count);
                }
            }
            return ways[all];
        }

        private int listMembers(int open) {
            int count = 0;
            for (int i = 0; i < MAX_ITEMS && count < MAX_ORDERED; i++) {
                if (Bits.has(open, i)) {
                    member[count] = i;
                    count++;
                }
            }
            return count;
        }

        private void listNeeds(int count, int[] beforeSets) {
            for (int i = 0; i < count; i++) {
                need[i] = 0;
                for (int k = 0; k < count; k++) {
                    if (Bits.has(beforeSets[member[i]], member[k])) {
                        need[i] |= 1 << k;
                    }
                }
            }
        }

        private void goOnFrom(int set, int count) {
            for (int i = 0; i < count; i++) {
                if (!Bits.has(set, i) && (need[i] & ~set) == 0) {
                    ways[set | 1 << i] += ways[set];
                }
            }
        }
    }

    /** The text, and its reader. */
    private static final class Text {
        /** Stands for the character behind the last one. */
        private static final int NO_CODE = 0;
        private static final int NO_NUMBER = -1;

        int length = 0;
        /** What has been read; a queue if no fault was found. */
        final Queue draft = new Queue();
        private final int[] codes = new int[MAX_TEXT];
        private int at = 0;

        /** The caller has seen that there is room. */
        void append(int code) {
            codes[length] = code;
            length++;
        }

        /** Answers the fault, or NONE. */
        int read() {
            draft.removeItems();
            at = 0;
            int found = NONE;
            for (int turn = 0; turn < MAX_TEXT && at < length && found == NONE; turn++) {
                found = readItem();
            }
            return found;
        }

        private int readItem() {
            if (draft.isFull() || !isDigit(codeHere())) {
                return at;
            }
            int priority = codeHere() - '0';
            at++;
            if (codeHere() != 'w') {
                return at;
            }
            at++;
            int first = at;
            int work = readNumber();
            if (!isWithin(work, 1, MAX_WORK)) {
                return first;
            }
            return readEdges(draft.append(priority, work, TEXT_ATTEMPTS, 0, 0));
        }

        private int readEdges(int item) {
            for (int turn = 0; turn < MAX_TEXT && codeHere() != ';'; turn++) {
                int sign = codeHere();
                if (sign != '<' && sign != '!') {
                    return at;
                }
                at++;
                int first = at;
                int from = readNumber();
                boolean described = from != NO_NUMBER && from < item;
                if (!described || Bits.has(draft.predecessors(item), from)) {
                    return first;
                }
                draft.putEdge(from, item, sign == '<' ? SUCCESS : END);
            }
            at++;
            return NONE;
        }

        /** One or two digits; NO_NUMBER if there is none. */
        private int readNumber() {
            if (!isDigit(codeHere())) {
                return NO_NUMBER;
            }
            int number = codeHere() - '0';
            at++;
            if (isDigit(codeHere())) {
                number = number * 10 + codeHere() - '0';
                at++;
            }
            return number;
        }

        private int codeHere() {
            return at < length ? codes[at] : NO_CODE;
        }

        private static boolean isDigit(int code) {
            return code >= '0' && code <= '9';
        }
    }
}
