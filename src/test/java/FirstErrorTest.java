/**
 * "If several errors apply to a call, the one that is named first in the description of the result
 * is reported. NONE is reported only if no error applies." For each promise, each pair of errors
 * that can apply to one call.
 */
public final class FirstErrorTest {
    /** Item 0 is in flight with the receipt 2, 1 waits for it, 2 is done, 3 ready. */
    private static final String FOUR = "add(1, 1, 3, 0, 0) = 0; add(1, 1, 3, 0, 0) = 1;"
            + "add(9, 1, 3, 0, 0) = 2; add(1, 1, 3, 0, 0) = 3; link(0, 1, 0) = 1;"
            + "receive(5) = 2; finish(2, 1) = 0; receive(5) = 0; receipt(0) = 2;";
    private static final String TWENTY = Script.repeat(20, "add(1, 1, 1, 0, 0) = #");
    private static final String FULL_TEXT = "text(" + "0w1,".repeat(50) + ");";

    private static final Script SCRIPT = new Script();

    public static void main(String[] args) {
        add();
        link();
        linkToWhatCannotChange();
        itemsAndEdges();
        receipts();
        work();
        properties();
        plans();
        textAndSlots();
        SCRIPT.end();
    }

    private static void add() {
        String both = "promise 2: BAD_VALUE, then FULL";
        SCRIPT.run(both, TWENTY, "add(-1, 1, 1, 0, 0) = BAD_VALUE; add(10, 1, 1, 0, 0) = BAD_VALUE",
                "add(0, 0, 1, 0, 0) = BAD_VALUE; add(0, 21, 1, 0, 0) = BAD_VALUE",
                "add(0, 1, 0, 0, 0) = BAD_VALUE; add(0, 1, 6, 0, 0) = BAD_VALUE",
                "add(0, 1, 1, -1, 0) = BAD_VALUE; add(0, 1, 1, 4, 0) = BAD_VALUE",
                "add(0, 1, 1, 0, -1) = BAD_VALUE; add(0, 1, 1, 0, 21) = BAD_VALUE",
                "add(MIN, MIN, MIN, MIN, MIN) = BAD_VALUE; add(MAX, MAX, MAX, MAX, MAX) = BAD_VALUE",
                "add(0, 1, 1, 0, 0) = FULL; add(9, 20, 5, 3, 20) = FULL");
    }

    private static void link() {
        SCRIPT.run("promise 3: BAD_ITEM, then BAD_VALUE", FOUR, "link(4, 0, 2) = BAD_ITEM",
                "link(0, 4, -1) = BAD_ITEM; link(-1, -1, MAX) = BAD_ITEM; link(4, 4, MIN) = BAD_ITEM");
        SCRIPT.run("promise 3: BAD_ITEM, then CYCLE", FOUR, "link(4, 4, 0) = BAD_ITEM",
                "link(-1, -1, 1) = BAD_ITEM; link(MIN, MIN, 0) = BAD_ITEM; witness(0) = NONE");
        SCRIPT.run("promise 3: BAD_ITEM, then NOT_POSSIBLE", FOUR, "link(4, 0, 0) = BAD_ITEM",
                "link(-1, 2, 1) = BAD_ITEM");
        SCRIPT.run("promise 3: BAD_VALUE, then CYCLE", FOUR, "link(3, 3, 2) = BAD_VALUE",
                "link(1, 0, -1) = BAD_VALUE; witness(0) = NONE; link(1, 1, MAX) = BAD_VALUE",
                "witness(0) = NONE");
        SCRIPT.run("promise 3: BAD_VALUE, then NOT_POSSIBLE", FOUR, "link(3, 0, 2) = BAD_VALUE",
                "link(3, 2, -1) = BAD_VALUE; link(3, 0, 0) = NOT_POSSIBLE");
        SCRIPT.run("promise 3: all four errors but BAD_ITEM", FOUR, "link(0, 0, 2) = BAD_VALUE",
                "link(1, 0, 2) = BAD_VALUE");
    }

    private static void linkToWhatCannotChange() {
        SCRIPT.run("promise 3: CYCLE, then NOT_POSSIBLE, the same item in flight", FOUR,
                "link(0, 0, 0) = CYCLE; witness(0) = 0; witness(1) = NONE");
        SCRIPT.run("promise 3: CYCLE, then NOT_POSSIBLE, the same item ended", FOUR,
                "link(2, 2, 1) = CYCLE; witness(0) = 2; witness(1) = NONE");
        SCRIPT.run("promise 3: CYCLE, then NOT_POSSIBLE, the successor in flight", FOUR,
                "link(1, 0, 0) = CYCLE; witness(0) = 0; witness(1) = 1");
        String chain = "add(1, 1, 1, 0, 0) = 0; add(1, 1, 1, 0, 0) = 1; link(0, 1, 1) = 1;";
        SCRIPT.run("promise 3: CYCLE, then NOT_POSSIBLE, the successor done", chain,
                "receive(1) = 0; finish(0, 1) = 1; link(1, 0, 0) = CYCLE; witness(1) = 1");
        SCRIPT.run("promise 3: CYCLE, then NOT_POSSIBLE, the successor cancelled", chain,
                "cancel(0) = 0; link(1, 0, 0) = CYCLE; witness(1) = 1");
        SCRIPT.run("promise 3: CYCLE, then NOT_POSSIBLE, the successor dead", chain,
                "receive(1) = 0; tick(1) = 1; link(1, 0, 1) = CYCLE; witness(1) = 1");
        SCRIPT.run("promise 3: CYCLE, then NOT_POSSIBLE, the successor doomed", chain,
                "add(1, 1, 1, 0, 0) = 2; link(2, 0, 0) = 2; cancel(2) = 1; state(0) = 5",
                "link(1, 0, 1) = CYCLE; witness(1) = 1");
    }

    private static void itemsAndEdges() {
        SCRIPT.run("promise 4: BAD_VALUE, then NONE", "witness(-1) = BAD_VALUE",
                "witness(MIN) = BAD_VALUE; witness(0) = NONE");
        SCRIPT.run("promise 5: BAD_ITEM, then NOT_POSSIBLE", FOUR, "unlink(4, 0) = BAD_ITEM",
                "unlink(2, 4) = BAD_ITEM; unlink(-1, 2) = BAD_ITEM; unlink(4, 4) = BAD_ITEM");
        SCRIPT.run("promise 5: both reasons of NOT_POSSIBLE", FOUR, "unlink(3, 0) = NOT_POSSIBLE",
                "unlink(3, 2) = NOT_POSSIBLE; unlink(0, 0) = NOT_POSSIBLE");
        SCRIPT.run("promise 6: BAD_ITEM, then BAD_VALUE", FOUR, "setPriority(4, 10) = BAD_ITEM",
                "setPriority(-1, -1) = BAD_ITEM; setPriority(MAX, MAX) = BAD_ITEM");
        SCRIPT.run("promise 6: BAD_VALUE, then NOT_POSSIBLE", FOUR, "setPriority(2, 10) = BAD_VALUE",
                "setPriority(2, -1) = BAD_VALUE; setPriority(2, 9) = NOT_POSSIBLE");
    }

    private static void receipts() {
        SCRIPT.run("promise 12: BAD_ITEM, then STALE", FOUR, "finish(4, 9) = BAD_ITEM",
                "finish(-1, 2) = BAD_ITEM; finish(MIN, MIN) = BAD_ITEM; finish(3, 2) = STALE");
        for (String call : new String[] {"giveBack", "extend"}) {
            String promise = call.equals("extend") ? "promise 14: " : "promise 13: ";
            SCRIPT.run(promise + "BAD_ITEM, then BAD_VALUE", FOUR, call + "(4, 2, 31) = BAD_ITEM",
                    call + "(-1, 2, -1) = BAD_ITEM; " + call + "(MAX, 2, MAX) = BAD_ITEM");
            SCRIPT.run(promise + "BAD_ITEM, then STALE", FOUR, call + "(4, 9, 3) = BAD_ITEM",
                    call + "(-1, -7, 3) = BAD_ITEM");
            SCRIPT.run(promise + "BAD_VALUE, then STALE", FOUR, call + "(0, 9, 31) = BAD_VALUE",
                    call + "(0, 1, -1) = BAD_VALUE; " + call + "(2, 1, MIN) = BAD_VALUE",
                    call + "(3, 2, MAX) = BAD_VALUE; " + call + "(3, 2, 3) = STALE");
            SCRIPT.run(promise + "all three errors", FOUR, call + "(4, 9, 31) = BAD_ITEM");
        }
    }

    private static void work() {
        SCRIPT.run("promise 10: BAD_VALUE, then NONE", "receive(0) = BAD_VALUE",
                "receive(31) = BAD_VALUE; receive(MIN) = BAD_VALUE; receive(MAX) = BAD_VALUE",
                "receive(1) = NONE; receive(30) = NONE");
        SCRIPT.run("promise 11: BAD_ITEM, then NONE", "receipt(0) = BAD_ITEM;", FOUR,
                "receipt(4) = BAD_ITEM; receipt(3) = NONE");
    }

    private static void properties() {
        SCRIPT.run("promise 23: BAD_ITEM, then BAD_VALUE", FOUR, "property(4, 8) = BAD_ITEM",
                "property(-1, -1) = BAD_ITEM; property(MAX, MIN) = BAD_ITEM");
        SCRIPT.run("promise 23: BAD_ITEM, then NONE", FOUR, "property(4, 6) = BAD_ITEM",
                "property(4, 7) = BAD_ITEM; property(2, 6) = NONE; property(2, 7) = NONE");
        SCRIPT.run("promise 24: BAD_ITEM, then NONE", FOUR, "edge(4, 0) = BAD_ITEM",
                "edge(0, 4) = BAD_ITEM; edge(4, 4) = BAD_ITEM; edge(3, 0) = NONE");
        SCRIPT.run("promise 29: BAD_ITEM, then NONE", FOUR, "isSuperfluous(4, 0) = BAD_ITEM",
                "isSuperfluous(0, 4) = BAD_ITEM; isSuperfluous(4, 4) = BAD_ITEM",
                "isSuperfluous(3, 0) = NONE");
    }

    private static void plans() {
        SCRIPT.run("promise 30: both values", FOUR, "planLength(0, 3) = BAD_VALUE",
                "planLength(7, -1) = BAD_VALUE; planLength(MIN, MAX) = BAD_VALUE");
        SCRIPT.run("promise 31: BAD_ITEM, then BAD_VALUE", FOUR, "planStart(4, 0, 0) = BAD_ITEM",
                "planStart(-1, 1, 3) = BAD_ITEM; planStart(4, 7, -1) = BAD_ITEM");
        SCRIPT.run("promise 31: BAD_VALUE, then NONE", FOUR, "planStart(2, 0, 0) = BAD_VALUE",
                "planStart(2, 7, 0) = BAD_VALUE; planStart(2, 1, -1) = BAD_VALUE",
                "planStart(2, 1, 3) = BAD_VALUE; planStart(2, 0, 3) = BAD_VALUE",
                "planStart(2, 1, 0) = NONE");
    }

    private static void textAndSlots() {
        SCRIPT.run("promise 36: BAD_VALUE, then FULL", FULL_TEXT, "write(31) = BAD_VALUE",
                "write(127) = BAD_VALUE; write(MIN) = BAD_VALUE; write(MAX) = BAD_VALUE",
                "write(32) = FULL; write(126) = FULL; wipe() = 200");
        SCRIPT.run("promise 41: BAD_VALUE, then NOT_POSSIBLE", "restore(-1) = BAD_VALUE",
                "restore(2) = BAD_VALUE; restore(MIN) = BAD_VALUE; restore(MAX) = BAD_VALUE",
                "restore(0) = NOT_POSSIBLE; restore(1) = NOT_POSSIBLE");
    }
}
