/**
 * Each argument for which the document names a range: just below it, at both ends of it, just
 * above it, and the least and the greatest int. Items have a test of their own, BadItemsTest.
 */
public final class RangesTest {
    private static final String ITEM = "add(3, 1, 5, 0, 0) = 0;";
    private static final String TWO = "add(3, 4, 5, 0, 0) = 0; add(4, 6, 5, 0, 0) = 1;";
    private static final String IN_FLIGHT = ITEM + "tick(7) = 0; receive(20) = 0;";
    private static final String SIX = Script.repeat(6, "add(1, 2, 1, 0, 0) = #");

    private static final Script SCRIPT = new Script();

    public static void main(String[] args) {
        add();
        itemsAndEdges();
        witness();
        work();
        properties();
        plans();
        text();
        slots();
        SCRIPT.end();
    }

    /**
     * The call has a # in the argument's place. A value outside of the range is refused, and the
     * call with the least value then answers as if nothing had been.
     */
    private static void range(String name, String setup, String call, int least, int most,
            String dueAtLeast, String dueAtMost) {
        String first = with(call, least) + " = " + dueAtLeast;
        SCRIPT.run(name + ", the least", setup, first);
        SCRIPT.run(name + ", the greatest", setup, with(call, most) + " = " + dueAtMost);
        for (int value : new int[] {least - 1, most + 1, Integer.MIN_VALUE, Integer.MAX_VALUE}) {
            SCRIPT.run(name + ", " + value, setup, with(call, value) + " = BAD_VALUE", first);
        }
    }

    private static String with(String call, int value) {
        return call.replace("#", Integer.toString(value));
    }

    private static void add() {
        range("promise 2: priority 0 to 9", "", "add(#, 1, 1, 0, 0)", 0, 9,
                "0; property(0, 0) = 0; rank(0) = 0; items() = 1",
                "0; property(0, 0) = 9; rank(0) = 900; items() = 1");
        range("promise 2: work 1 to 20", "", "add(0, #, 1, 0, 0)", 1, 20,
                "0; property(0, 1) = 1; height(0) = 1; planLength(1, 0) = 1; items() = 1",
                "0; property(0, 1) = 20; height(0) = 20; planLength(1, 0) = 20; items() = 1");
        range("promise 2: attempts 1 to 5", "", "add(0, 1, #, 0, 0)", 1, 5,
                "0; property(0, 2) = 1; receive(1) = 0; tick(1) = 1; state(0) = 6",
                "0; property(0, 2) = 5;" + Script.repeat(4, "receive(1) = 0; tick(1) = 1;"
                        + "state(0) = 1") + "receive(1) = 0; tick(1) = 1; state(0) = 6");
        range("promise 2: group 0 to 3", "", "add(0, 1, 1, #, 0)", 0, 3,
                "0; property(0, 3) = 0; items() = 1", "0; property(0, 3) = 3; items() = 1");
        range("promise 2: delay 0 to 20", "tick(5) = 0", "add(0, 1, 1, 0, #)", 0, 20,
                "0; property(0, 4) = 0; property(0, 6) = 5; receive(1) = 0",
                "0; property(0, 4) = 20; property(0, 6) = 25; tick(19) = 0; receive(1) = NONE;"
                        + "tick(1) = 0; receive(1) = 0");
    }

    private static void itemsAndEdges() {
        range("promise 3: kind 0 or 1", TWO, "link(0, 1, #)", 0, 1,
                "1; edge(0, 1) = 0; cancel(0) = 1; state(1) = 5",
                "1; edge(0, 1) = 1; cancel(0) = 0; state(1) = 1");
        range("promise 6: priority 0 to 9", ITEM, "setPriority(0, #)", 0, 9,
                "3; property(0, 0) = 0; rank(0) = 0", "3; property(0, 0) = 9; rank(0) = 900");
        range("promise 7: policy 0 to 2", ITEM + "tick(2) = 0; setPolicy(1) = 0",
                "setPolicy(#)", 0, 2, "1; rank(0) = 300; setPolicy(1) = 0",
                "1; rank(0) = 320; setPolicy(1) = 2");
        range("promise 8: group limit 1 to 9", Script.repeat(10, "add(1, 1, 1, 2, 0) = #")
                + "setGroupLimit(4) = 9", "setGroupLimit(#)", 1, 9,
                "4; receive(9) = 0; receive(9) = NONE; setGroupLimit(2) = 1",
                "4;" + Script.repeat(9, "receive(9) = #") + "receive(9) = NONE;"
                        + "setGroupLimit(2) = 9");
    }

    /** Its argument has no greatest value: an index behind the path is no error. */
    private static void witness() {
        String closed = TWO + "link(0, 1, 0) = 1; link(1, 0, 0) = CYCLE;";
        SCRIPT.run("promise 4: k is 0 or more", closed, "witness(-1) = BAD_VALUE",
                "witness(MIN) = BAD_VALUE; witness(0) = 0; witness(1) = 1; witness(2) = NONE",
                "witness(20) = NONE; witness(MAX) = NONE; witness(0) = 0");
        SCRIPT.run("promise 4: k without a path", "witness(-1) = BAD_VALUE",
                "witness(MIN) = BAD_VALUE; witness(0) = NONE; witness(MAX) = NONE");
    }

    private static void work() {
        range("promise 10: visibility 1 to 30", ITEM + "tick(7) = 0", "receive(#)", 1, 30,
                "0; property(0, 7) = 8; receipt(0) = 1; tick(1) = 1",
                "0; property(0, 7) = 37; receipt(0) = 1; tick(29) = 0; state(0) = 2; tick(1) = 1");
        range("promise 10: visibility 1 to 30, nothing to receive", "", "receive(#)", 1, 30,
                "NONE", "NONE");
        range("promise 13: pause 0 to 10", IN_FLIGHT, "giveBack(0, 1, #)", 0, 10,
                "1; property(0, 6) = 7; property(0, 5) = 1; receive(1) = 0",
                "1; property(0, 6) = 17; property(0, 5) = 1; receive(1) = NONE");
        range("promise 14: visibility 1 to 30", IN_FLIGHT, "extend(0, 1, #)", 1, 30,
                "27; property(0, 7) = 8; tick(1) = 1",
                "27; property(0, 7) = 37; tick(29) = 0; state(0) = 2; tick(1) = 1");
        range("promise 17: ticks 1 to 30", IN_FLIGHT, "tick(#)", 1, 30,
                "0; time() = 8; state(0) = 2", "1; time() = 37; state(0) = 1");
    }

    private static void properties() {
        String firstAndLast = TWO + "add(9, 1, 1, 0, 0) = 2; link(0, 1, 0) = 1; receive(1) = 2;"
                + "tick(1) = 1;";
        range("promise 22: state 0 to 6", firstAndLast, "itemsIn(#)", 0, 6, "2", "4");
        range("promise 23: what 0 to 7", IN_FLIGHT, "property(0, #)", 0, 7, "3", "27");
    }

    private static void plans() {
        range("promise 30: workers 1 to 6", SIX, "planLength(#, 0)", 1, 6, "12", "2");
        range("promise 30: policy 0 to 2", aged(), "planLength(2, #)", 0, 2, "22", "24");
        range("promise 30: workers 1 to 6, an empty queue", "", "planLength(#, 0)", 1, 6, "0", "0");
        range("promise 30: policy 0 to 2, an empty queue", "", "planLength(1, #)", 0, 2, "0", "0");
        range("promise 31: workers 1 to 6", SIX, "planStart(5, #, 0)", 1, 6, "10", "0");
        range("promise 31: policy 0 to 2", aged(), "planStart(3, 2, #)", 0, 2, "12", "14");
        range("promise 32: policy 0 to 2", aged(), "bestWorkers(#)", 0, 2, "2", "3");
        range("promise 32: policy 0 to 2, an empty queue", "", "bestWorkers(#)", 0, 2, "1", "1");
    }

    /** By age, item 2 has waited long enough to go ahead of item 3, which makes the plan longer. */
    private static String aged() {
        return "add(9, 12, 1, 0, 0) = 0; add(9, 14, 1, 0, 0) = 1; add(1, 2, 1, 0, 0) = 2;"
                + "add(2, 10, 1, 0, 0) = 3; link(0, 3, 0) = 1;";
    }

    private static void text() {
        range("promise 36: code 32 to 126", "", "write(#)", 32, 126,
                "1; write(32) = 2; wipe() = 2", "1; write(126) = 2; wipe() = 2");
        for (int code = 32; code <= 126; code++) {
            SCRIPT.run("promise 36: code " + code, "write(" + code + ") = 1; wipe() = 1");
        }
        for (int wrapped : new int[] {53 + 256, 53 + 65536, 53 - 256, 53 - 65536}) {
            SCRIPT.run("promise 36: no code wraps around", "write(" + wrapped + ") = BAD_VALUE",
                    "wipe() = 0");
        }
    }

    private static void slots() {
        range("promise 40: slot 0 or 1", ITEM, "save(#)", 0, 1,
                "1; clear() = 1; restore(1) = NOT_POSSIBLE; restore(0) = 1",
                "1; clear() = 1; restore(0) = NOT_POSSIBLE; restore(1) = 1");
        range("promise 41: slot 0 or 1", ITEM + "save(0) = 1;" + "add(3, 1, 5, 0, 0) = 1;"
                + "save(1) = 2; clear() = 2", "restore(#)", 0, 1,
                "1; items() = 1", "2; items() = 2");
        range("promise 41: slot 0 or 1, both empty", ITEM, "restore(#)", 0, 1,
                "NOT_POSSIBLE; items() = 1", "NOT_POSSIBLE; items() = 1");
    }
}
