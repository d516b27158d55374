/**
 * Each argument that is an item: BAD_ITEM just below and just above the numbers that there are, for
 * the least and the greatest int, and for numbers that would wrap around to an item in a set of
 * 32 bits. The first and the last item are none of these.
 */
public final class BadItemsTest {
    /** The promise, the call with # for the item, and the answers due in FULL_QUEUE for 0 and 19. */
    private static final String[][] CALLS = {
        {"promise 3: link, from", "link(#, 3, 0)", "4", "4"},
        {"promise 3: link, to", "link(3, #, 1)", "NOT_POSSIBLE", "4"},
        {"promise 5: unlink, from", "unlink(#, 1)", "2", "2"},
        {"promise 5: unlink, to", "unlink(2, #)", "NOT_POSSIBLE", "2"},
        {"promise 6: setPriority", "setPriority(#, 7)", "9", "8"},
        {"promise 11: receipt", "receipt(#)", "1", "NONE"},
        {"promise 12: finish", "finish(#, 1)", "0", "STALE"},
        {"promise 13: giveBack", "giveBack(#, 1, 3)", "1", "STALE"},
        {"promise 14: extend", "extend(#, 1, 3)", "30", "STALE"},
        {"promise 15: cancel", "cancel(#)", "1", "0"},
        {"promise 16: revive", "revive(#)", "NOT_POSSIBLE", "NOT_POSSIBLE"},
        {"promise 21: state", "state(#)", "2", "0"},
        {"promise 23: property", "property(#, 0)", "9", "8"},
        {"promise 24: edge, from", "edge(#, 1)", "0", "1"},
        {"promise 24: edge, to", "edge(2, #)", "NONE", "0"},
        {"promise 25: rank", "rank(#)", "900", "800"},
        {"promise 26: height", "height(#)", "4", "6"},
        {"promise 27: before", "before(#)", "0", "4"},
        {"promise 28: wouldDoom", "wouldDoom(#)", "2", "0"},
        {"promise 29: isSuperfluous, from", "isSuperfluous(#, 1)", "0", "0"},
        {"promise 29: isSuperfluous, to", "isSuperfluous(2, #)", "NONE", "0"},
        {"promise 31: planStart", "planStart(#, 1, 0)", "0", "4"},
        {"promise 33: slack", "slack(#)", "3", "0"},
    };

    private static final String FOUR_ITEMS = Script.repeat(4, "add(1, 1, 3, 0, 0) = #");

    /** Item 0 is in flight and before 1; 2 is before 19, and 19 before 1. */
    private static final String FULL_QUEUE = "add(9, 3, 3, 0, 0) = 0;"
            + Script.numbered(1, 19, "add(1, 1, 3, 0, 0) = #")
            + "add(8, 5, 3, 0, 0) = 19; link(0, 1, 0) = 1; link(19, 1, 1) = 2; link(2, 19, 0) = 3;"
            + "receive(30) = 0;";

    private static final Script SCRIPT = new Script();

    public static void main(String[] args) {
        for (String[] call : CALLS) {
            emptyQueue(call[0], call[1]);
            fourItems(call[0], call[1]);
            fullQueue(call[0], call[1], call[2], call[3]);
            itemsThatAreGone(call[0], call[1]);
        }
        SCRIPT.end();
    }

    private static String refused(String call, int item) {
        return call.replace("#", Integer.toString(item)) + " = BAD_ITEM;";
    }

    private static void emptyQueue(String name, String call) {
        for (int item : new int[] {-1, 0, 1, 19, 20, Integer.MIN_VALUE, Integer.MAX_VALUE}) {
            SCRIPT.run(name + ", an empty queue", refused(call, item), "items() = 0");
        }
    }

    private static void fourItems(String name, String call) {
        int[] wrapped = {31, 32, 33, 35, 64, 256, 65536, -28, -31, -32, -64, -256};
        for (int item : wrapped) {
            SCRIPT.run(name + ", wrapped around", FOUR_ITEMS, refused(call, item), "edges() = 0");
        }
        int[] outside = {-1, 4, 5, 19, 20, Integer.MIN_VALUE, Integer.MAX_VALUE};
        for (int item : outside) {
            SCRIPT.run(name + ", four items", FOUR_ITEMS, refused(call, item), "edges() = 0",
                    "itemsIn(1) = 15; items() = 4");
        }
    }

    private static void fullQueue(String name, String call, String dueFirst, String dueLast) {
        SCRIPT.run(name + ", the first item", FULL_QUEUE, call.replace("#", "0") + " = " + dueFirst);
        SCRIPT.run(name + ", the last item", FULL_QUEUE, call.replace("#", "19") + " = " + dueLast);
        for (int item : new int[] {-1, 20, 21, 32, 51, Integer.MIN_VALUE, Integer.MAX_VALUE}) {
            SCRIPT.run(name + ", a full queue", FULL_QUEUE, refused(call, item), "items() = 20");
        }
    }

    /** Four items again, after there were five. */
    private static void itemsThatAreGone(String name, String call) {
        String fifth = "add(1, 1, 3, 0, 0) = 4;";
        SCRIPT.run(name + ", after clear()", FOUR_ITEMS, fifth, "clear() = 5", FOUR_ITEMS,
                refused(call, 4));
        SCRIPT.run(name + ", after load()", FOUR_ITEMS, fifth, "text(1w1,1w1,1w1,1w1,)",
                "load() = 4", refused(call, 4));
        SCRIPT.run(name + ", after restore()", FOUR_ITEMS, "save(0) = 4", fifth, "restore(0) = 4",
                refused(call, 4));
    }
}
