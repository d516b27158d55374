/** Promises 40 and 41: saved queues. */
public final class SavedQueuesTest {
    private static final String BUSY =
            "add(3, 5, 4, 1, 2) = 0; add(4, 6, 3, 2, 3) = 1; add(5, 7, 2, 3, 4) = 2;"
            + "link(1, 2, 1) = 1; link(0, 2, 0) = 2; tick(3) = 0; receive(7) = 1; receive(8) = 0;"
            + "giveBack(0, 2, 6) = 1; tick(1) = 0; setPolicy(2) = 0; setGroupLimit(5) = 9;";

    /** All that can be seen of the busy queue. */
    private static final String SEEN =
            "items() = 3; edges() = 2; time() = 4; itemsIn(0) = 4; itemsIn(1) = 1;"
            + "itemsIn(2) = 2; property(0, 0) = 3; property(0, 1) = 5; property(0, 2) = 4;"
            + "property(0, 3) = 1; property(0, 4) = 2; property(0, 5) = 1; property(0, 6) = 9;"
            + "property(1, 7) = 10; property(1, 5) = 1; property(2, 0) = 5; receipt(0) = 2;"
            + "receipt(1) = 1; receipt(2) = -7; edge(1, 2) = 1; edge(0, 2) = 0; rank(0) = 310;"
            + "setPolicy(2) = 2; setGroupLimit(5) = 5;";

    private static final Script SCRIPT = new Script();

    public static void main(String[] args) {
        SCRIPT.run("promises 40 and 41: slots", "save(-1) = -2; save(2) = -2; restore(-1) = -2",
                "restore(2) = -2; restore(0) = -4; restore(1) = -4; save(0) = 0; restore(1) = -4",
                "restore(0) = 0; save(1) = 0; restore(1) = 0");
        SCRIPT.run("promise 41: all that was saved", BUSY, SEEN, "save(1) = 3;", SEEN,
                "setPriority(2, 0) = 5; extend(1, 1, 30) = 10; unlink(0, 2) = 1; link(0, 2, 1) = 2",
                "finish(1, 1) = 0; cancel(0) = 0; state(2) = 1; tick(30) = 0",
                "setPolicy(0) = 2; setGroupLimit(1) = 5; restore(1) = 3;", SEEN,
                "setPolicy(0) = 2; setGroupLimit(1) = 5; clear() = 3; add(9, 9, 1, 0, 0) = 0",
                "receive(1) = 0; receipt(0) = 3; restore(0) = -4; restore(1) = 3;", SEEN,
                // The number of receipts is restored, so the next receipt is 3 again.
                "tick(5) = 0; receive(3) = 0; receipt(0) = 3; finish(0, 3) = 0; finish(1, 1) = 1",
                "restore(1) = 3;", SEEN);
        SCRIPT.run("promises 40 and 41: two slots", "add(1, 1, 1, 0, 0) = 0; save(0) = 1",
                "add(2, 1, 1, 0, 0) = 1; link(1, 0, 0) = 1; save(1) = 2; tick(4) = 0",
                "restore(0) = 1; items() = 1; edges() = 0; time() = 0; state(0) = 1",
                "restore(1) = 2; edges() = 1; state(0) = 0; restore(0) = 1; edges() = 0",
                "setPriority(0, 7) = 1; save(1) = 1; restore(0) = 1; property(0, 0) = 1",
                "restore(1) = 1; property(0, 0) = 7; cancel(0) = 0; save(0) = 1; restore(1) = 1",
                "state(0) = 1; restore(0) = 1; state(0) = 4");
        SCRIPT.run("promise 41: what is not saved", "text(5w3,); save(0) = 0; write(53) = 5",
                "restore(0) = 0; wipe() = 5; add(1, 1, 1, 0, 0) = 0; link(0, 0, 0) = -5",
                "save(0) = 1; witness(0) = 0; restore(0) = 1; witness(0) = -7");
        SCRIPT.run("promise 41: a new item in an old place", "add(1, 1, 1, 0, 0) = 0",
                "add(1, 1, 1, 0, 0) = 1; save(0) = 2; link(0, 1, 0) = 1; restore(0) = 2",
                "edge(0, 1) = -7; state(1) = 1; clear() = 2; restore(0) = 2",
                "add(1, 1, 1, 0, 0) = 2; items() = 3; restore(0) = 2; state(2) = -1");
        SCRIPT.end();
    }
}
