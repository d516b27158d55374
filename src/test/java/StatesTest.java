/**
 * What each kind of edge makes of its successor for each state of its predecessor, which states a
 * call accepts, and how states are settled.
 */
public final class StatesTest {
    /** Calls that bring item 0 into each of the states; item 1 is there to doom it. */
    private static final String[] INTO = {
        "link(1, 0, 1) = 1;",
        "",
        "receive(30) = 0;",
        "receive(30) = 0; finish(0, 1) = 0;",
        "cancel(0) = 0;",
        "link(1, 0, 0) = 1; cancel(1) = 1;",
        "receive(30) = 0; giveBack(0, 1, 0) = 6;",
    };
    private static final String TWO = "add(9, 1, 1, 0, 0) = 0; add(1, 1, 1, 0, 0) = 1;";

    private static final Script SCRIPT = new Script();

    public static void main(String[] args) {
        for (int state = 0; state <= 6; state++) {
            String setup = TWO + INTO[state] + "state(0) = " + state + ";";
            int edges = state == 0 || state == 5 ? 1 : 0;
            edgesFrom(state, setup, edges);
            edgesTo(state, setup, edges);
            calls(state, setup);
        }
        settling();
        untouched();
        againstTheNumbers();
        SCRIPT.end();
    }

    private static void edgesFrom(int state, String setup, int edges) {
        int bySuccess = state == 3 ? 1 : state > 3 ? 5 : 0;
        int byEnd = state >= 3 ? 1 : 0;
        String third = "add(1, 1, 1, 0, 3) = 2; tick(1) = 0;";
        SCRIPT.run("promise 3: a success edge from state " + state, setup, third,
                "link(0, 2, 0) = " + (edges + 1), "state(2) = " + bySuccess,
                "property(2, 6) = " + (bySuccess == 1 ? "3" : "NONE"));
        SCRIPT.run("promise 3: an end edge from state " + state, setup, third,
                "link(0, 2, 1) = " + (edges + 1), "state(2) = " + byEnd,
                "property(2, 6) = " + (byEnd == 1 ? "3" : "NONE"));
        SCRIPT.run("promise 3: an end edge from state " + state + " made one of success",
                setup, third,
                "link(0, 2, 1) = " + (edges + 1), "link(0, 2, 0) = " + (edges + 1),
                "state(2) = " + bySuccess, "edge(0, 2) = 0; edges() = " + (edges + 1));
        if (bySuccess != 5) {
            SCRIPT.run("promise 3: a success edge from state " + state + " made one of end", setup,
                    third, "link(0, 2, 0) = " + (edges + 1), "link(0, 2, 1) = " + (edges + 1),
                    "state(2) = " + byEnd, "edge(0, 2) = 1; edges() = " + (edges + 1));
            SCRIPT.run("promise 5: an edge from state " + state, setup, third,
                    "link(0, 2, 0) = " + (edges + 1), "unlink(0, 2) = " + edges, "state(2) = 1",
                    // It was ready all the time if the edge was satisfied.
                    "property(2, 6) = " + (bySuccess == 1 ? 3 : 4));
        }
    }

    private static void edgesTo(int state, String setup, int edges) {
        boolean refused = state >= 2;
        String third = "add(1, 1, 1, 0, 0) = 2;";
        String due = refused ? "NOT_POSSIBLE" : Integer.toString(edges + 1);
        SCRIPT.run("promise 3: a new edge to state " + state, setup, third, "link(2, 0, 0) = " + due,
                "link(2, 0, 1) = " + due, "edge(2, 0) = " + (refused ? "NONE" : "1"),
                "edges() = " + (refused ? edges : edges + 1), "state(0) = " + (refused ? state : 0));
        String linked = "add(9, 1, 1, 0, 0) = 0; add(1, 1, 1, 0, 0) = 1; add(1, 1, 1, 0, 0) = 2;"
                + "cancel(2) = 0; link(2, 0, 1) = 1;";
        String into = INTO[state].replace("1, 0, 1) = 1", "1, 0, 1) = 2")
                .replace("1, 0, 0) = 1", "1, 0, 0) = 2") + "state(0) = " + state + ";";
        SCRIPT.run("promise 5: an edge to state " + state, linked, into,
                "unlink(2, 0) = " + (refused ? "NOT_POSSIBLE" : Integer.toString(edges)),
                "edge(2, 0) = " + (refused ? "1" : "NONE"), "state(0) = " + state);
        SCRIPT.run("promise 3: the same kind for an edge to state " + state, linked, into,
                "link(2, 0, 1) = " + (refused ? "NOT_POSSIBLE" : Integer.toString(edges + 1)),
                "edge(2, 0) = 1; state(0) = " + state);
        SCRIPT.run("promise 3: another kind for an edge to state " + state, linked, into,
                "link(2, 0, 0) = " + (refused ? "NOT_POSSIBLE" : Integer.toString(edges + 1)),
                "edge(2, 0) = " + (refused ? 1 : 0), "state(0) = " + (refused ? state : 5));
    }

    /** Which states the calls accept that depend on one. */
    private static void calls(int state, String setup) {
        boolean ended = state >= 3;
        boolean failed = state >= 4;
        SCRIPT.run("promise 6: setPriority() in state " + state, setup,
                "setPriority(0, 4) = " + (ended ? "NOT_POSSIBLE" : "9"),
                "property(0, 0) = " + (ended ? 9 : 4));
        SCRIPT.run("promise 15: cancel() in state " + state, setup,
                "cancel(0) = " + (ended ? "NOT_POSSIBLE" : "0"), "state(0) = " + (ended ? state : 4));
        // The item that dooms it is still cancelled, so it becomes doomed again.
        int revived = state == 5 ? 5 : 1;
        SCRIPT.run("promise 16: revive() in state " + state, setup,
                "revive(0) = " + (failed ? Integer.toString(revived) : "NOT_POSSIBLE"),
                "state(0) = " + (failed ? revived : state));
        for (String call : new String[] {"finish(0, 1)", "giveBack(0, 1, 0)", "extend(0, 1, 1)"}) {
            String due = call.startsWith("f") ? "0" : call.startsWith("g") ? "6" : "30";
            SCRIPT.run("promises 12 to 14: a receipt in state " + state, setup,
                    call + " = " + (state == 2 ? due : "STALE"));
        }
        SCRIPT.run("promise 23: the ready time in state " + state, setup,
                "property(0, 6) = " + (state == 1 ? "0" : "NONE"));
        SCRIPT.run("promise 23: the deadline in state " + state, setup,
                "property(0, 7) = " + (state == 2 ? "30" : "NONE"));
        SCRIPT.run("promise 22: itemsIn() has the item in state " + state, setup,
                "state(0) = " + state, inOneSet(state));
        SCRIPT.run("promise 25: an age in state " + state, setup, "setPolicy(2) = 0; tick(2) = 0",
                "rank(0) = " + (state == 1 ? 920 : 900));
        SCRIPT.run("promise 26: the height in state " + state, setup,
                "height(0) = " + (ended ? 0 : 1));
        SCRIPT.run("promise 28: wouldDoom() in state " + state, setup,
                "wouldDoom(0) = " + (ended ? "NOT_POSSIBLE" : "0"));
        SCRIPT.run("promise 31: planStart() in state " + state, setup,
                "planStart(0, 6, 0) = " + (ended ? "NONE" : state == 0 ? "1" : "0"));
        SCRIPT.run("promise 33: slack() in state " + state, setup,
                "slack(0) = " + (ended ? "NOT_POSSIBLE" : "0"));
        SCRIPT.run("promises 34, 35: an item in state " + state, setup, "add(1, 1, 1, 0, 0) = 2",
                "orders() = " + (state == 0 ? 3 : state < 3 ? 6 : state == 5 ? 1 : 2),
                "width() = " + (state == 0 ? 2 : state < 3 ? 3 : state == 5 ? 1 : 2));
        SCRIPT.run("promise 10: received in state " + state, setup,
                "receive(1) = " + (state == 1 ? "0" : state == 5 ? "NONE" : "1"));
    }

    private static String inOneSet(int state) {
        StringBuilder sets = new StringBuilder();
        for (int k = 0; k <= 6; k++) {
            int first = k == state ? 1 : 0;
            int second = k == (state == 5 ? 4 : 1) ? 2 : 0;
            sets.append("itemsIn(" + k + ") = " + (first + second) + ";");
        }
        return sets.toString();
    }

    private static void settling() {
        String four = Script.repeat(4, "add(1, 1, 1, 0, 0) = #");
        SCRIPT.run("promise 15: a broken edge counts before one that is not satisfied", four,
                "link(0, 2, 0) = 1; link(1, 2, 0) = 2; cancel(1) = 1; state(2) = 5; state(0) = 1");
        SCRIPT.run("promise 15: a broken edge counts before one that is satisfied", four,
                "link(0, 2, 0) = 1; link(1, 2, 0) = 2; receive(9) = 0; finish(0, 1) = 0",
                "state(2) = 0; cancel(1) = 1; state(2) = 5");
        SCRIPT.run("promises 12, 15: all edges must be satisfied", four, "link(0, 3, 0) = 1",
                "link(1, 3, 1) = 2; link(2, 3, 0) = 3; receive(9) = 0; finish(0, 1) = 0",
                "state(3) = 0; cancel(1) = 0; state(3) = 0; receive(9) = 2; state(3) = 0",
                "finish(2, 2) = 1; state(3) = 1");
        SCRIPT.run("promise 15: a doomed item breaks edges, and ends others",
                four, "link(0, 1, 0) = 1",
                "link(1, 2, 0) = 2; link(1, 3, 1) = 3; cancel(0) = 2; state(2) = 5; state(3) = 1");
        SCRIPT.run("promise 3: a ready item becomes doomed", four, "cancel(0) = 0; state(1) = 1",
                "link(0, 1, 0) = 1; state(1) = 5");
        SCRIPT.run("promise 3: a ready item waits again", four, "link(0, 1, 0) = 1; state(1) = 0");
        SCRIPT.run("promise 16: items that it has doomed stay so", four, "link(0, 1, 0) = 1",
                "link(1, 2, 0) = 2; cancel(0) = 2; revive(0) = 1; state(1) = 5; state(2) = 5",
                "receive(9) = 0; finish(0, 1) = 0; state(1) = 5; revive(1) = 1; state(2) = 5",
                "revive(2) = 0");
    }

    /** Items in flight, and those that have ended, are not affected by edges. */
    private static void untouched() {
        String flying = "add(1, 1, 1, 0, 0) = 0; add(1, 1, 5, 0, 0) = 1; link(0, 1, 1) = 1;"
                + "cancel(0) = 0; receive(30) = 1; revive(0) = 1; state(1) = 2;";
        SCRIPT.run("promise 16: an item in flight is not affected", flying, "finish(1, 1) = 0",
                "state(1) = 3; cancel(0) = 0; revive(0) = 1; state(1) = 3");
        SCRIPT.run("promise 13: it waits when it has returned", flying, "giveBack(1, 1, 5) = 0",
                "state(1) = 0; property(1, 6) = NONE; tick(2) = 0; cancel(0) = 0",
                "property(1, 6) = 2");
        SCRIPT.run("promise 17: it waits when it has returned", flying, "tick(30) = 1; state(1) = 0");
        SCRIPT.run("promise 28: an item in flight would not be doomed", flying, "wouldDoom(0) = 0");
        SCRIPT.run("promise 15: an item that is done stays so", "add(1, 1, 1, 0, 0) = 0",
                "add(1, 1, 1, 0, 0) = 1; link(0, 1, 1) = 1; cancel(0) = 0; receive(9) = 1",
                "finish(1, 1) = 0; revive(0) = 1; cancel(0) = 0; state(1) = 3");
    }

    private static void againstTheNumbers() {
        String chain = Script.repeat(5, "add(1, 1, 1, 0, 0) = #")
                + "link(4, 3, 0) = 1; link(3, 2, 0) = 2; link(2, 1, 0) = 3; link(1, 0, 0) = 4;";
        SCRIPT.run("promise 15: again from the first item on", chain, "cancel(4) = 4",
                "itemsIn(5) = 15; itemsIn(4) = 16");
        SCRIPT.run("promise 17: again from the first item on", chain, "receive(1) = 4; tick(1) = 1",
                "itemsIn(5) = 15; itemsIn(6) = 16");
        SCRIPT.run("promise 3: again from the first item on", chain, "add(1, 1, 1, 0, 0) = 5",
                "cancel(5) = 0; link(5, 4, 0) = 5; itemsIn(5) = 31");
        SCRIPT.run("promise 12: only one item becomes ready", chain, "receive(1) = 4",
                "finish(4, 1) = 1; itemsIn(1) = 8; itemsIn(0) = 7");
    }
}
