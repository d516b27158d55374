/** Promises 18 to 29: properties. */
public final class PropertiesTest {
    private static final String THREE =
            "add(1, 1, 1, 0, 0) = 0; add(1, 1, 1, 0, 0) = 1; add(1, 1, 1, 0, 0) = 2;";

    private static final Script SCRIPT = new Script();

    public static void main(String[] args) {
        counts();
        states();
        property();
        edge();
        rank();
        heightAndBefore();
        wouldDoom();
        isSuperfluous();
        SCRIPT.end();
    }

    private static void counts() {
        SCRIPT.run("promise 18", "items() = 0;", THREE, "items() = 3; cancel(1) = 0; items() = 3",
                "add(99, 1, 1, 0, 0) = -2; items() = 3; clear() = 3; items() = 0");
        SCRIPT.run("promise 19", THREE, "edges() = 0; link(0, 1, 0) = 1; link(1, 2, 1) = 2",
                "link(0, 2, 1) = 3; edges() = 3; link(0, 2, 0) = 3; edges() = 3",
                "link(2, 0, 0) = -5; edges() = 3; unlink(0, 1) = 2; edges() = 2; clear() = 3",
                "edges() = 0");
        SCRIPT.run("promise 20", "time() = 0; tick(1) = 0; time() = 1; tick(30) = 0; time() = 31",
                "tick(31) = -2; time() = 31; clear() = 0; load() = 0; time() = 31");
    }

    private static void states() {
        SCRIPT.run("promises 21 and 22", "add(9, 1, 1, 0, 0) = 0; add(1, 1, 1, 0, 0) = 1",
                "add(1, 1, 1, 0, 0) = 2; add(8, 1, 1, 0, 0) = 3; add(7, 1, 1, 0, 0) = 4",
                "add(1, 1, 1, 0, 0) = 5; add(1, 1, 1, 0, 0) = 6; link(1, 2, 0) = 1",
                "link(5, 6, 0) = 2; receive(9) = 0; finish(0, 1) = 0; cancel(1) = 1",
                "receive(1) = 3; tick(1) = 1; receive(9) = 4; itemsIn(0) = 64; itemsIn(1) = 32",
                "itemsIn(2) = 16; itemsIn(3) = 1; itemsIn(4) = 2; itemsIn(5) = 4",
                "itemsIn(6) = 8; itemsIn(-1) = -2; itemsIn(7) = -2; state(0) = 3; state(1) = 4",
                "state(2) = 5; state(3) = 6; state(4) = 2; state(5) = 1; state(6) = 0",
                "state(7) = -1; state(-1) = -1; state(2147483647) = -1");
    }

    private static void property() {
        SCRIPT.run("promise 23", "property(0, 0) = -1; add(4, 7, 2, 3, 6) = 0; property(0, 0) = 4",
                "property(0, 1) = 7; property(0, 2) = 2; property(0, 3) = 3; property(0, 4) = 6",
                "property(0, 5) = 0; property(0, 6) = 6; property(0, 7) = -7; property(0, -1) = -2",
                "property(0, 8) = -2; property(1, 8) = -1; property(-1, 0) = -1; tick(6) = 0",
                "receive(8) = 0; property(0, 5) = 1; property(0, 6) = -7; property(0, 7) = 14",
                "tick(8) = 1; property(0, 6) = 14; property(0, 7) = -7; receive(2) = 0",
                "property(0, 7) = 16; finish(0, 2) = 0; property(0, 6) = -7; property(0, 7) = -7",
                "property(0, 5) = 2; property(0, 0) = 4; property(0, 4) = 6");
        SCRIPT.run("promise 23: waiting", THREE, "link(0, 1, 0) = 1; property(1, 6) = -7",
                "property(1, 7) = -7; property(0, 6) = 0");
    }

    private static void edge() {
        SCRIPT.run("promise 24", THREE, "edge(0, 1) = -7; link(0, 1, 0) = 1; link(1, 2, 1) = 2",
                "edge(0, 1) = 0; edge(1, 2) = 1; edge(1, 0) = -7; edge(0, 2) = -7; edge(0, 0) = -7",
                "edge(3, 0) = -1; edge(0, 3) = -1; edge(-1, 0) = -1; edge(0, -1) = -1",
                "cancel(1) = 0; edge(0, 1) = 0; edge(1, 2) = 1");
    }

    private static void rank() {
        SCRIPT.run("promise 25", "rank(0) = -1; add(3, 5, 1, 0, 0) = 0; add(2, 6, 1, 0, 9) = 1",
                "add(1, 7, 2, 0, 0) = 2; link(0, 2, 0) = 1; rank(0) = 300; rank(1) = 200",
                "rank(2) = 100; rank(3) = -1; rank(-1) = -1; setPolicy(1) = 0; rank(0) = 312",
                "rank(1) = 206; rank(2) = 107; setPolicy(2) = 1; tick(4) = 0; rank(0) = 340",
                "rank(1) = 240; rank(2) = 100; receive(9) = 0; tick(2) = 0; rank(0) = 300",
                "finish(0, 1) = 1; rank(0) = 300; rank(2) = 100; tick(3) = 0; rank(2) = 130",
                "rank(1) = 290; setPolicy(1) = 2; rank(0) = 307; rank(2) = 107");
        SCRIPT.run("promise 25: ready since it returned", "setPolicy(2) = 0",
                "add(1, 1, 3, 0, 0) = 0; tick(5) = 0; rank(0) = 150; receive(2) = 0; tick(2) = 1",
                "rank(0) = 100; tick(1) = 0; rank(0) = 110; receive(9) = 0; tick(1) = 0",
                "giveBack(0, 2, 5) = 1; rank(0) = 100; tick(3) = 0; rank(0) = 130");
        SCRIPT.run("promise 25: a doomed item has no age", THREE, "setPolicy(2) = 0",
                "link(0, 1, 0) = 1; tick(3) = 0; rank(1) = 100; cancel(0) = 1; rank(1) = 100",
                "rank(0) = 100; rank(2) = 130");
    }

    private static void heightAndBefore() {
        SCRIPT.run("promises 26 and 27", "add(1, 2, 1, 0, 0) = 0; add(1, 5, 1, 0, 0) = 1",
                "add(1, 4, 1, 0, 0) = 2; add(1, 9, 1, 0, 0) = 3; link(0, 1, 1) = 1",
                "link(1, 2, 1) = 2; link(0, 3, 0) = 3; height(0) = 11; height(1) = 9",
                "height(2) = 4; height(3) = 9; height(4) = -1; height(-1) = -1; before(0) = 0",
                "before(1) = 1; before(2) = 3; before(3) = 1; before(4) = -1; before(-1) = -1",
                // Items that have ended are left out of the sum, but not of the paths.
                "cancel(1) = 0; height(0) = 11; cancel(3) = 0; height(0) = 6; height(1) = 4",
                "height(2) = 4; height(3) = 0; before(2) = 3; receive(9) = 0; height(0) = 6",
                "finish(0, 1) = 0; height(0) = 4; before(2) = 3; before(3) = 1");
        SCRIPT.run("promises 26 and 27: against the numbers", "add(1, 1, 1, 0, 0) = 0",
                "add(1, 2, 1, 0, 0) = 1; add(1, 3, 1, 0, 0) = 2; add(1, 4, 1, 0, 0) = 3",
                "link(3, 1, 0) = 1; link(1, 2, 0) = 2; link(2, 0, 0) = 3; link(3, 0, 1) = 4",
                "height(3) = 10; height(1) = 6; height(2) = 4; height(0) = 1; before(0) = 14",
                "before(2) = 10; before(1) = 8; before(3) = 0; unlink(1, 2) = 3; before(0) = 12",
                "height(3) = 6");
        SCRIPT.run("promises 26 and 27: the first and the last item in the middle", THREE,
                "link(1, 0, 0) = 1; link(0, 2, 1) = 2; before(2) = 3; height(1) = 3",
                "link(2, 1, 0) = -5; unlink(0, 2) = 1; before(2) = 0; link(1, 2, 0) = 2",
                "link(2, 0, 0) = 3; before(0) = 6; height(1) = 3; height(0) = 1");
    }

    private static void wouldDoom() {
        SCRIPT.run("promise 28", THREE, "add(1, 1, 1, 0, 0) = 3; add(1, 1, 1, 0, 0) = 4",
                "link(4, 3, 0) = 1; link(3, 0, 0) = 2; link(3, 1, 1) = 3; link(1, 2, 0) = 4",
                "wouldDoom(4) = 9; wouldDoom(3) = 1; wouldDoom(1) = 4; wouldDoom(0) = 0",
                "wouldDoom(5) = -1; wouldDoom(-1) = -1; receive(9) = 4; wouldDoom(4) = 9",
                "state(0) = 0; itemsIn(5) = 0; cancel(4) = 2; itemsIn(5) = 9; wouldDoom(4) = -4",
                "wouldDoom(3) = -4; wouldDoom(1) = 4; receive(9) = 1; finish(1, 2) = 1",
                "wouldDoom(1) = -4");
        SCRIPT.run("promise 28: an item that is doomed already", THREE, "link(0, 2, 0) = 1",
                "link(1, 2, 0) = 2; wouldDoom(1) = 4; cancel(0) = 1; wouldDoom(1) = 0",
                "cancel(1) = 0");
    }

    private static void isSuperfluous() {
        SCRIPT.run("promise 29", THREE, "add(1, 1, 1, 0, 0) = 3; link(0, 1, 0) = 1",
                "link(1, 2, 1) = 2; link(0, 2, 0) = 3; link(2, 3, 0) = 4; isSuperfluous(0, 1) = 0",
                "isSuperfluous(0, 2) = 1; isSuperfluous(1, 2) = 0; isSuperfluous(2, 3) = 0",
                "isSuperfluous(0, 3) = -7; isSuperfluous(2, 0) = -7; isSuperfluous(0, 0) = -7",
                "isSuperfluous(0, 4) = -1; isSuperfluous(-1, 0) = -1; link(0, 3, 1) = 5",
                "isSuperfluous(0, 3) = 1; unlink(1, 2) = 4; isSuperfluous(0, 2) = 0",
                "isSuperfluous(0, 3) = 1; edges() = 4");
        SCRIPT.run("promise 29: through the first and the last item", THREE, "link(1, 2, 0) = 1",
                "link(1, 0, 0) = 2; isSuperfluous(1, 2) = 0; link(0, 2, 0) = 3",
                "isSuperfluous(1, 2) = 1; isSuperfluous(1, 0) = 0; unlink(0, 2) = 2",
                "link(2, 0, 1) = 3; isSuperfluous(1, 0) = 1; isSuperfluous(1, 2) = 0");
        SCRIPT.run("promise 29: through an item that has ended", THREE, "link(0, 1, 1) = 1",
                "link(1, 2, 1) = 2; link(0, 2, 1) = 3; cancel(1) = 0; isSuperfluous(0, 2) = 1");
    }
}
