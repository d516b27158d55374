/** Promises 1 to 9: a new object, items and edges. */
public final class ItemsAndEdgesTest {
    private static final String THREE =
            "add(1, 1, 1, 0, 0) = 0; add(1, 1, 1, 0, 0) = 1; add(1, 1, 1, 0, 0) = 2;";
    private static final String SIX = THREE
            + "add(1, 1, 1, 0, 0) = 3; add(1, 1, 1, 0, 0) = 4; add(1, 1, 1, 0, 0) = 5;";

    private static final Script SCRIPT = new Script();

    public static void main(String[] args) {
        newObject();
        add();
        link();
        linkSettles();
        witness();
        witnessIsGone();
        unlink();
        settings();
        clear();
        SCRIPT.end();
    }

    private static void newObject() {
        SCRIPT.run("promise 1", "items() = 0; edges() = 0; time() = 0; setPolicy(0) = 0",
                "setGroupLimit(9) = 9; wipe() = 0; restore(0) = -4; restore(1) = -4",
                "witness(0) = -7; receive(1) = -7; width() = 0; orders() = 1");
    }

    private static void add() {
        SCRIPT.run("promise 2: values", "add(-1, 1, 1, 0, 0) = -2; add(10, 1, 1, 0, 0) = -2",
                "add(0, 0, 1, 0, 0) = -2; add(0, 21, 1, 0, 0) = -2; add(0, 1, 0, 0, 0) = -2",
                "add(0, 1, 6, 0, 0) = -2; add(0, 1, 1, -1, 0) = -2; add(0, 1, 1, 4, 0) = -2",
                "add(0, 1, 1, 0, -1) = -2; add(0, 1, 1, 0, 21) = -2; items() = 0",
                "add(0, 1, 1, 0, 0) = 0; add(9, 20, 5, 3, 20) = 1; items() = 2",
                "property(1, 6) = 20; tick(7) = 0; add(3, 4, 2, 1, 5) = 2; state(2) = 1",
                "property(2, 0) = 3; property(2, 1) = 4; property(2, 2) = 2; property(2, 3) = 1",
                "property(2, 4) = 5; property(2, 5) = 0; property(2, 6) = 12; before(2) = 0",
                "receipt(2) = -7; edges() = 0; setPolicy(2) = 0; tick(2) = 0; rank(2) = 320");
        StringBuilder twenty = new StringBuilder();
        for (int i = 0; i < 20; i++) {
            twenty.append("add(0, 1, 1, 0, 0) = ").append(i).append(";");
        }
        SCRIPT.run("promise 2: full", twenty.toString(), "add(0, 1, 1, 0, 0) = -3",
                "add(10, 1, 1, 0, 0) = -2; items() = 20; link(19, 0, 0) = 1; state(19) = 1",
                "state(20) = -1; clear() = 20; add(0, 1, 1, 0, 0) = 0; state(0) = 1");
    }

    private static void link() {
        SCRIPT.run("promise 3: errors", THREE, "link(-1, 0, 0) = -1; link(0, 3, 0) = -1",
                "link(3, 3, 5) = -1; link(0, 1, 2) = -2; link(0, 1, -1) = -2; link(0, 0, 2) = -2",
                "link(0, 0, 0) = -5; link(0, 1, 0) = 1; link(1, 2, 1) = 2; link(2, 0, 0) = -5",
                "link(1, 0, 1) = -5; edges() = 2; link(0, 2, 0) = 3; edges() = 3");
        SCRIPT.run("promise 3: kinds", THREE, "link(0, 1, 0) = 1; edge(0, 1) = 0",
                "link(0, 1, 1) = 1; edge(0, 1) = 1; link(0, 1, 1) = 1; link(0, 1, 0) = 1",
                "edge(0, 1) = 0; edges() = 1; edge(1, 0) = -7");
        SCRIPT.run("promise 3: the cycle is reported first", THREE, "link(0, 1, 0) = 1",
                "receive(5) = 0; link(1, 0, 0) = -5; link(0, 0, 0) = -5; link(2, 0, 0) = -4",
                "link(2, 0, 2) = -2; cancel(0) = 1; link(1, 0, 1) = -5; link(2, 0, 1) = -4",
                "link(0, 1, 1) = -4; edge(0, 1) = 0; edges() = 1");
        SCRIPT.run("promise 3: every end refuses edges", THREE, "receive(5) = 0; finish(0, 1) = 0",
                "link(1, 0, 0) = -4; receive(1) = 1; tick(1) = 1; state(1) = 6",
                "link(2, 1, 1) = -4; cancel(2) = 0; link(0, 2, 1) = -4; edges() = 0");
        SCRIPT.run("promise 3: a cycle through items that have ended", THREE,
                "link(0, 1, 1) = 1; link(1, 2, 1) = 2; cancel(1) = 0; link(2, 0, 0) = -5");
    }

    private static void linkSettles() {
        SCRIPT.run("promise 3: broken or satisfied at once", THREE, "add(1, 1, 1, 0, 0) = 3",
                "cancel(0) = 0; link(0, 1, 1) = 1; state(1) = 1; link(1, 2, 0) = 2; state(2) = 0",
                "link(3, 1, 0) = 3; state(1) = 0; link(0, 1, 0) = 3; state(1) = 5; state(2) = 5",
                "state(3) = 1");
        SCRIPT.run("promise 3: the kind changed", THREE, "link(0, 1, 1) = 1; state(1) = 0",
                "cancel(0) = 0; state(1) = 1; link(0, 1, 0) = 1; state(1) = 5");
        SCRIPT.run("promise 3: a dead predecessor",
                THREE, "receive(1) = 0; tick(1) = 1; state(0) = 6",
                "link(0, 1, 1) = 1; state(1) = 1; link(0, 2, 0) = 2; state(2) = 5");
        SCRIPT.run("promise 3: a doomed predecessor", THREE, "link(0, 1, 0) = 1; cancel(0) = 1",
                "link(1, 2, 1) = 2; state(2) = 1; link(1, 2, 0) = 2; state(2) = 5");
        SCRIPT.run("promise 3: a satisfied edge leaves the ready time", "add(0, 1, 1, 0, 0) = 0",
                "add(0, 1, 1, 0, 3) = 1; receive(9) = 0; finish(0, 1) = 0; tick(2) = 0",
                "link(0, 1, 0) = 1; state(1) = 1; property(1, 6) = 3; setPolicy(2) = 0",
                "rank(1) = 20");
        SCRIPT.run("promise 3: a ready time begins anew after waiting", "add(0, 1, 1, 0, 0) = 0",
                "add(0, 1, 1, 0, 3) = 1; link(0, 1, 0) = 1; state(1) = 0; property(1, 6) = -7",
                "tick(2) = 0; unlink(0, 1) = 0; state(1) = 1; property(1, 6) = 5",
                "setPolicy(2) = 0; tick(1) = 0; rank(1) = 10");
    }

    private static void witness() {
        SCRIPT.run("promise 4: the smallest list", SIX, "link(0, 2, 0) = 1; link(2, 5, 0) = 2",
                "link(0, 1, 1) = 3; link(1, 5, 1) = 4; link(0, 3, 0) = 5; link(3, 4, 0) = 6",
                "link(4, 5, 0) = 7; link(5, 0, 0) = -5; witness(0) = 0; witness(1) = 1",
                "witness(2) = 5; witness(3) = -7; witness(2147483647) = -7; witness(-1) = -2",
                "witness(-2147483648) = -2");
        SCRIPT.run("promise 4: fewest edges first", SIX, "link(0, 1, 0) = 1; link(1, 2, 0) = 2",
                "link(2, 3, 0) = 3; link(0, 3, 1) = 4; link(3, 0, 0) = -5; witness(0) = 0",
                "witness(1) = 3; witness(2) = -7; link(2, 0, 0) = -5; witness(0) = 0",
                "witness(1) = 1; witness(2) = 2; witness(3) = -7");
        SCRIPT.run("promise 4: smallest from the front", SIX, "link(5, 1, 0) = 1",
                "link(1, 4, 0) = 2; link(4, 0, 0) = 3; link(5, 2, 0) = 4; link(2, 3, 0) = 5",
                "link(3, 0, 0) = 6; link(0, 5, 1) = -5; witness(0) = 5; witness(1) = 1",
                "witness(2) = 4; witness(3) = 0; witness(4) = -7",
                // It is told as it was then, and until the next refused cycle.
                "unlink(4, 0) = 5; witness(2) = 4; link(1, 2, 0) = 6; witness(2) = 4",
                "link(0, 9, 0) = -1; link(0, 1, 9) = -2; witness(3) = 0; link(3, 3, 0) = -5",
                "witness(0) = 3; witness(1) = -7; link(0, 5, 1) = -5; witness(1) = 2");
        StringBuilder chain = new StringBuilder();
        StringBuilder path = new StringBuilder("link(0, 19, 0) = -5;");
        for (int i = 0; i < 20; i++) {
            chain.append("add(0, 1, 1, 0, 0) = ").append(i).append(";");
            path.append("witness(").append(i).append(") = ").append(19 - i).append(";");
        }
        for (int i = 1; i < 20; i++) {
            chain.append("link(" + i + ", " + (i - 1) + ", 0) = " + i + ";");
        }
        SCRIPT.run("promise 4: the longest path", chain.toString(), path.toString(),
                "witness(20) = -7; state(0) = 0; state(19) = 1; cancel(19) = 19; itemsIn(5) = 524287");
    }

    private static void witnessIsGone() {
        String cycle = THREE + "link(1, 1, 0) = -5; witness(0) = 1;";
        SCRIPT.run("promise 4: the path is gone after clear", cycle, "clear() = 3; witness(0) = -7");
        SCRIPT.run("promise 4: the path is gone after load", cycle, "load() = 0; witness(0) = -7");
        SCRIPT.run("promise 4: the path is gone after restore", cycle, "save(0) = 3; witness(0) = 1",
                "restore(0) = 3; witness(0) = -7; witness(-1) = -2");
        SCRIPT.run("promise 4: the path stays", cycle, "text(5w); load() = -4; restore(0) = -4",
                "restore(7) = -2; tick(3) = 0; receive(2) = 0; cancel(1) = 0; witness(0) = 1");
    }

    private static void unlink() {
        SCRIPT.run("promise 5", THREE, "link(0, 1, 0) = 1; link(0, 2, 1) = 2; link(1, 2, 0) = 3",
                "unlink(1, 0) = -4; unlink(0, 3) = -1; unlink(-1, 0) = -1; unlink(0, 0) = -4",
                "unlink(0, 2) = 2; edge(0, 2) = -7; state(2) = 0; unlink(0, 2) = -4",
                "unlink(1, 2) = 1; state(2) = 1; state(1) = 0; unlink(0, 1) = 0; state(1) = 1",
                "edges() = 0");
        SCRIPT.run("promise 5: not while in flight, not when ended", THREE, "link(0, 1, 1) = 1",
                "link(0, 2, 0) = 2; cancel(0) = 1; unlink(0, 2) = -4; receive(5) = 1",
                "unlink(0, 1) = -4; finish(1, 1) = 0; unlink(0, 1) = -4; edges() = 2");
        SCRIPT.run("promise 5: the predecessor may be in flight", THREE, "link(0, 1, 0) = 1",
                "receive(5) = 0; unlink(0, 1) = 0; state(1) = 1; state(0) = 2");
    }

    private static void settings() {
        SCRIPT.run("promise 6", "add(4, 1, 1, 0, 0) = 0; setPriority(1, 3) = -1",
                "setPriority(-1, 3) = -1; setPriority(0, -1) = -2; setPriority(0, 10) = -2",
                "setPriority(0, 9) = 4; setPriority(0, 0) = 9; property(0, 0) = 0; rank(0) = 0",
                "receive(5) = 0; setPriority(0, 2) = 0; finish(0, 1) = 0; setPriority(0, 3) = -4",
                "setPriority(0, 10) = -2; setPriority(1, 10) = -1; property(0, 0) = 2");
        SCRIPT.run("promise 6: waiting items, and the next one", THREE, "link(0, 1, 0) = 1",
                "setPriority(1, 7) = 1; property(1, 0) = 7; setPriority(2, 3) = 1; receive(1) = 2",
                "cancel(0) = 1; setPriority(0, 3) = -4; setPriority(1, 3) = -4");
        SCRIPT.run("promise 7", "setPolicy(-1) = -2; setPolicy(3) = -2; setPolicy(1) = 0",
                "setPolicy(2) = 1; setPolicy(0) = 2; setPolicy(5) = -2; setPolicy(0) = 0");
        SCRIPT.run("promise 8", "setGroupLimit(0) = -2; setGroupLimit(10) = -2",
                "setGroupLimit(1) = 9; setGroupLimit(9) = 1; setGroupLimit(-5) = -2",
                "setGroupLimit(4) = 9");
    }

    private static void clear() {
        SCRIPT.run("promise 9", THREE, "link(0, 1, 0) = 1; link(0, 2, 1) = 2; receive(5) = 0",
                "tick(2) = 0; setPolicy(1) = 0; setGroupLimit(3) = 9; save(0) = 3; text(5w3,)",
                "clear() = 3; items() = 0; edges() = 0; time() = 2; state(0) = -1; itemsIn(2) = 0",
                "tick(9) = 0; setPolicy(1) = 1; setGroupLimit(3) = 3; clear() = 0",
                "add(1, 1, 1, 0, 0) = 0; add(1, 1, 1, 0, 0) = 1; add(1, 1, 1, 0, 0) = 2",
                "edges() = 0; before(1) = 0; before(2) = 0; receipt(0) = -7; property(0, 5) = 0",
                "receive(5) = 0; receipt(0) = 2; fault() = -7; wipe() = 4; restore(0) = 3",
                "edges() = 2; state(0) = 2");
    }
}
