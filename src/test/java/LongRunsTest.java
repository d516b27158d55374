/**
 * "An object is used for at most 512 calls": runs of that many calls that go as far as they can in
 * one direction, and runs of calls with the least and the greatest int alone.
 */
public final class LongRunsTest {
    private static final String[] EXTREMES = {"MIN", "MAX"};

    private static final Script SCRIPT = new Script();

    public static void main(String[] args) {
        time();
        work();
        savedAndLoaded();
        extremes("an empty queue", "");
        extremes("a queue with items", Script.repeat(20, "add(1, 1, 1, 0, 0) = #")
                + "link(0, 1, 0) = 1; link(1, 0, 0) = CYCLE; receive(9) = 0; save(0) = 20;"
                + "save(1) = 20;");
        SCRIPT.end();
    }

    private static void time() {
        SCRIPT.run("promises 17, 20, 25: the greatest time and age", "setPolicy(2) = 0",
                "add(9, 20, 5, 3, 20) = 0;", Script.repeat(500, "tick(30) = 0"), "time() = 15000",
                "rank(0) = 150900; property(0, 6) = 20; receive(30) = 0; property(0, 7) = 15030",
                "giveBack(0, 1, 10) = 1; property(0, 6) = 15010; rank(0) = 900; save(1) = 1");
        SCRIPT.run("promise 14: put off to the end", "add(9, 20, 1, 3, 0) = 0; receive(30) = 0",
                Script.numbered(30, 280, "tick(1) = 0; extend(0, 1, 30) = #"), "time() = 250",
                "state(0) = 2; property(0, 7) = 280");
    }

    private static void work() {
        StringBuilder again = new StringBuilder("add(1, 1, 1, 0, 0) = 0;");
        for (int receipt = 1; receipt <= 127; receipt++) {
            again.append("receive(1) = 0; receipt(0) = " + receipt + "; giveBack(0, " + receipt
                    + ", 10) = 6; revive(0) = 1;");
        }
        SCRIPT.run("promises 11, 16: receipts go on and on", again.toString(), "receive(1) = 0",
                "receipt(0) = 128; finish(0, 127) = STALE");
        SCRIPT.run("promises 15, 16: cancelled and revived again and again",
                "add(1, 1, 1, 0, 0) = 0; add(1, 1, 1, 0, 0) = 1; link(0, 1, 1) = 1;",
                Script.repeat(250, "cancel(0) = 0; revive(0) = 1"), "state(0) = 1; state(1) = 0",
                "edges() = 1; property(0, 5) = 0");
        SCRIPT.run("promises 3, 5: linked and unlinked again and again",
                "add(1, 1, 1, 0, 0) = 0; add(1, 1, 1, 0, 0) = 1;",
                Script.repeat(250, "link(1, 0, 1) = 1; unlink(1, 0) = 0"), "state(0) = 1");
        SCRIPT.run("promises 2, 9: filled and cleared again and again",
                Script.repeat(23, Script.repeat(20, "add(1, 1, 1, 0, 0) = #")
                        + "add(1, 1, 1, 0, 0) = FULL; clear() = 20"), "items() = 0");
    }

    private static void savedAndLoaded() {
        SCRIPT.run("promises 40, 41: saved and restored again and again", "add(1, 1, 1, 0, 0) = 0",
                Script.repeat(125, "save(0) = 1; tick(1) = 0; save(1) = 1; restore(0) = 1"),
                "time() = 0; restore(1) = 1; time() = 1");
        SCRIPT.run("promises 36 to 39: loaded again and again", "text(5w3,)",
                Script.repeat(125, "fault() = NONE; load() = 1; receive(1) = 0; property(0, 5) = 1"),
                "receipt(0) = 125; clear() = 1; wipe() = 4");
        SCRIPT.run("promises 36, 37: written and wiped again and again",
                Script.repeat(170, "write(126) = 1; write(32) = 2; wipe() = 2"), "fault() = NONE");
    }

    private static void extremes(String name, String setup) {
        for (String one : EXTREMES) {
            for (String other : EXTREMES) {
                SCRIPT.run(name + ", " + one + " and " + other, setup, badItems(one, other),
                        badValues(one, other), "fault() = NONE; load() = 0; clear() = 0");
            }
        }
    }

    private static String badItems(String one, String other) {
        String calls = "link(1, 2, 2) = BAD_ITEM; unlink(1, 2) = BAD_ITEM; edge(1, 2) = BAD_ITEM;"
                + "link(1, 1, 1) = BAD_ITEM; setPriority(1, 2) = BAD_ITEM; receipt(1) = BAD_ITEM;"
                + "finish(1, 2) = BAD_ITEM; giveBack(1, 2, 2) = BAD_ITEM; cancel(1) = BAD_ITEM;"
                + "extend(1, 2, 2) = BAD_ITEM; revive(1) = BAD_ITEM; state(1) = BAD_ITEM;"
                + "property(1, 2) = BAD_ITEM; rank(1) = BAD_ITEM; height(1) = BAD_ITEM;"
                + "before(1) = BAD_ITEM; wouldDoom(1) = BAD_ITEM; slack(1) = BAD_ITEM;"
                + "isSuperfluous(1, 2) = BAD_ITEM; planStart(1, 2, 2) = BAD_ITEM;";
        return calls.replace("1", one).replace("2", other);
    }

    private static String badValues(String one, String other) {
        String calls = "add(1, 2, 1, 2, 1) = BAD_VALUE; setPolicy(1) = BAD_VALUE;"
                + "setGroupLimit(1) = BAD_VALUE; receive(1) = BAD_VALUE; tick(1) = BAD_VALUE;"
                + "itemsIn(1) = BAD_VALUE; planLength(1, 2) = BAD_VALUE; bestWorkers(1) = BAD_VALUE;"
                + "write(1) = BAD_VALUE; save(1) = BAD_VALUE; restore(1) = BAD_VALUE;";
        return calls.replace("1", one).replace("2", other);
    }
}
