/** Promises 30 to 35: plans and orders. */
public final class PlansAndOrdersTest {
    private static final String ADD = "add(1, 1, 1, 0, 0)";
    private static final String THREE = Script.repeat(3, ADD + " = #");
    private static final String FOUR = THREE + "add(1, 1, 1, 0, 0) = 3;";

    private static final Script SCRIPT = new Script();

    public static void main(String[] args) {
        planErrors();
        planPolicies();
        planOfStates();
        bestWorkers();
        slack();
        width();
        orders();
        endedItemsBetween();
        SCRIPT.end();
    }

    private static void planErrors() {
        SCRIPT.run("promises 30 to 32: errors", "planLength(0, 0) = -2; planLength(7, 0) = -2",
                "planLength(1, -1) = -2; planLength(1, 3) = -2; planLength(6, 2) = 0",
                "planStart(0, 1, 0) = -1; bestWorkers(-1) = -2; bestWorkers(3) = -2",
                "bestWorkers(2) = 1;", THREE, "planStart(3, 0, 0) = -1; planStart(-1, 1, 0) = -1",
                "planStart(0, 0, 0) = -2; planStart(0, 7, 0) = -2; planStart(0, 1, 3) = -2",
                "planStart(0, 1, -1) = -2; cancel(0) = 0; planStart(0, 1, 0) = -7",
                "planStart(0, 1, 3) = -2; planStart(1, 1, 0) = 0; planStart(2, 1, 0) = 1");
    }

    private static void planPolicies() {
        SCRIPT.run("promises 30, 31: by priority, then by number", "add(1, 3, 1, 0, 0) = 0",
                "add(2, 4, 1, 0, 0) = 1; add(2, 1, 1, 0, 0) = 2; planStart(1, 1, 0) = 0",
                "planStart(2, 1, 0) = 4; planStart(0, 1, 0) = 5; planLength(1, 0) = 8",
                "planStart(2, 2, 0) = 0; planStart(0, 2, 0) = 1; planLength(2, 0) = 4");
        SCRIPT.run("promises 30, 31: by height", "add(1, 2, 1, 0, 0) = 0; add(1, 3, 1, 0, 0) = 1",
                "add(0, 9, 1, 0, 0) = 2; link(0, 2, 0) = 1; planStart(0, 1, 1) = 0",
                "planStart(1, 1, 1) = 2; planStart(2, 1, 1) = 5; planLength(2, 1) = 11",
                "unlink(0, 2) = 0; planStart(1, 1, 1) = 0; planStart(0, 1, 1) = 3");
        SCRIPT.run("promises 30, 31: by age", "add(5, 12, 1, 0, 0) = 0; add(1, 1, 1, 0, 0) = 1",
                "add(2, 1, 1, 0, 0) = 2; link(0, 2, 0) = 1; planStart(1, 1, 2) = 12",
                "planStart(2, 1, 2) = 13; planStart(2, 1, 0) = 12; planStart(1, 1, 0) = 13",
                "planLength(1, 2) = 14; setPolicy(2) = 0; tick(30) = 0; planStart(1, 1, 0) = 13",
                "planStart(1, 1, 2) = 12");
        SCRIPT.run("promises 30, 31: by age, equal ranks",
                "add(5, 10, 1, 0, 0) = 0; add(1, 1, 1, 0, 0) = 1",
                "add(2, 1, 1, 0, 0) = 2; link(0, 2, 0) = 1; planStart(1, 1, 2) = 10",
                "planStart(2, 1, 2) = 11");
        SCRIPT.run("promises 30, 31: by age, too young",
                "add(5, 9, 1, 0, 0) = 0; add(1, 1, 1, 0, 0) = 1",
                "add(2, 1, 1, 0, 0) = 2; link(0, 2, 0) = 1; planStart(1, 1, 2) = 10",
                "planStart(2, 1, 2) = 9");
    }

    private static void planOfStates() {
        SCRIPT.run("promises 30, 31: plans ignore delays, groups, attempts and pauses",
                "setGroupLimit(1) = 9",
                "add(1, 3, 1, 2, 20) = 0; add(1, 3, 1, 2, 20) = 1; planLength(2, 0) = 3",
                "tick(20) = 0; receive(9) = 0; planLength(2, 0) = 3; planStart(0, 1, 0) = 0",
                "planStart(1, 1, 0) = 3; finish(0, 1) = 0; planLength(1, 0) = 3",
                "planStart(1, 1, 0) = 0; planStart(0, 1, 0) = -7");
        SCRIPT.run("promises 30, 31: an item in flight waits like all others",
                "add(1, 3, 1, 0, 0) = 0",
                "add(1, 2, 3, 0, 0) = 1; link(0, 1, 1) = 1; cancel(0) = 0; receive(9) = 1",
                "planStart(1, 2, 0) = 0; revive(0) = 1; planStart(1, 2, 0) = 3",
                "planStart(0, 2, 0) = 0; planLength(2, 0) = 5");
        SCRIPT.run("promises 30, 31: nothing left",
                THREE, "cancel(0) = 0; cancel(1) = 0; cancel(2) = 0",
                "planLength(3, 1) = 0; bestWorkers(1) = 1; width() = 0; orders() = 1");
        StringBuilder chain = new StringBuilder();
        for (int i = 0; i < 20; i++) {
            chain.append("add(" + i % 10 + ", 20, 1, 0, 0) = " + i + ";");
        }
        for (int i = 1; i < 20; i++) {
            chain.append("link(" + i + ", " + (i - 1) + ", 0) = " + i + ";");
        }
        SCRIPT.run("promises 30, 31: the longest one", chain.toString(), "planLength(6, 2) = 400",
                "planStart(0, 6, 1) = 380; planStart(19, 1, 0) = 0; bestWorkers(1) = 1",
                "height(19) = 400; slack(0) = 0; slack(10) = 0; width() = 1");
    }

    private static void bestWorkers() {
        SCRIPT.run("promise 32: a third worker harms", "add(7, 3, 1, 0, 0) = 0",
                "add(1, 1, 1, 0, 0) = 1; add(1, 1, 1, 0, 0) = 2; add(8, 1, 1, 0, 0) = 3",
                "add(6, 5, 1, 0, 0) = 4; add(7, 1, 1, 0, 0) = 5; link(1, 4, 0) = 1",
                "link(2, 3, 0) = 2; link(2, 5, 0) = 3; planLength(1, 0) = 12; planLength(2, 0) = 6",
                "planLength(3, 0) = 7; planLength(4, 0) = 6; bestWorkers(0) = 2");
        SCRIPT.run("promise 32: a third worker harms, a fourth helps", "add(0, 4, 1, 0, 0) = 0",
                "add(3, 2, 1, 0, 0) = 1; add(0, 6, 1, 0, 0) = 2; add(6, 4, 1, 0, 0) = 3",
                "add(2, 2, 1, 0, 0) = 4; add(3, 2, 1, 0, 0) = 5; add(5, 4, 1, 0, 0) = 6",
                "add(9, 1, 1, 0, 0) = 7; add(7, 4, 1, 0, 0) = 8; link(0, 4, 0) = 1",
                "link(0, 5, 0) = 2; link(0, 7, 0) = 3; link(1, 2, 0) = 4; link(1, 5, 0) = 5",
                "link(1, 6, 0) = 6; link(1, 7, 0) = 7; link(2, 8, 0) = 8; link(6, 8, 0) = 9",
                "planLength(1, 1) = 29; planLength(2, 1) = 15; planLength(3, 1) = 16",
                "planLength(4, 1) = 12; planLength(5, 1) = 12; bestWorkers(1) = 4");
        SCRIPT.run("promise 32: six", FOUR, "add(1, 1, 1, 0, 0) = 4; add(1, 1, 1, 0, 0) = 5",
                "bestWorkers(0) = 6; add(1, 1, 1, 0, 0) = 6; bestWorkers(0) = 4");
    }

    private static void slack() {
        SCRIPT.run("promise 33", "add(1, 2, 1, 0, 0) = 0; add(1, 5, 1, 0, 0) = 1",
                "add(1, 4, 1, 0, 0) = 2; add(1, 3, 1, 0, 0) = 3; link(0, 1, 1) = 1",
                "link(1, 2, 1) = 2; link(0, 3, 1) = 3; slack(0) = 0; slack(1) = 0; slack(2) = 0",
                "slack(3) = 6; slack(4) = -1; slack(-1) = -1; link(3, 2, 0) = 4; slack(3) = 2",
                "cancel(1) = 0; slack(1) = -4; slack(0) = 0; slack(2) = 0; slack(3) = 0",
                "receive(9) = 0; slack(0) = 0; finish(0, 1) = 1; slack(0) = -4; slack(3) = 0",
                "add(1, 20, 1, 0, 0) = 4; slack(3) = 13; slack(2) = 13; slack(4) = 0");
        SCRIPT.run("promise 33: nothing is left of an edge that is gone", THREE, "link(2, 0, 0) = 1",
                "slack(0) = 0; slack(1) = 1; unlink(2, 0) = 0; slack(0) = 0; slack(1) = 0",
                "add(1, 9, 1, 0, 0) = 3; slack(0) = 8; slack(3) = 0");
    }

    private static void width() {
        SCRIPT.run("promise 34", FOUR, "width() = 4; link(0, 2, 0) = 1; width() = 3",
                "link(0, 3, 0) = 2; width() = 3; link(1, 2, 1) = 3; width() = 2",
                "link(2, 3, 0) = 4; width() = 2; link(0, 1, 0) = 5; width() = 1; receive(9) = 0",
                "width() = 1; cancel(0) = 3; width() = 0");
        SCRIPT.run("promise 34: pairs that must be changed", FOUR, "add(1, 1, 1, 0, 0) = 4",
                "add(1, 1, 1, 0, 0) = 5; link(0, 3, 0) = 1; link(0, 4, 0) = 2; link(1, 3, 0) = 3",
                "link(1, 5, 0) = 4; link(2, 3, 0) = 5; width() = 3; unlink(1, 5) = 4; width() = 4");
        StringBuilder fence = new StringBuilder();
        for (int i = 0; i < 9; i++) {
            fence.append("link(" + i + ", " + (i + 10) + ", 0) = " + (2 * i + 1) + ";"
                    + "link(" + i + ", " + (i + 11) + ", 0) = " + (2 * i + 2) + ";");
        }
        SCRIPT.run("promise 34: all pairs must be changed", Script.repeat(20, ADD + " = #"),
                fence.toString(), "width() = 11; link(9, 10, 1) = 19; width() = 10",
                "unlink(8, 19) = 18; width() = 11");
        SCRIPT.run("promise 34: a pair that was changed before", Script.repeat(6, ADD + " = #"),
                "link(0, 3, 0) = 1; link(0, 4, 0) = 2; link(0, 5, 0) = 3; link(1, 3, 0) = 4",
                "width() = 4; link(2, 3, 0) = 5; width() = 4");
        SCRIPT.run("promise 34: the first item in the middle", THREE, "link(2, 0, 0) = 1",
                "link(0, 1, 0) = 2; width() = 1; orders() = 1; cancel(0) = 1; width() = 1");
    }

    private static void orders() {
        SCRIPT.run("promise 35", FOUR, "orders() = 24; link(0, 2, 0) = 1; orders() = 12",
                "link(1, 2, 1) = 2; orders() = 8; link(1, 3, 0) = 3; orders() = 5",
                "receive(9) = 0; orders() = 5; finish(0, 1) = 0; orders() = 2; cancel(1) = 1",
                "orders() = 1");
        SCRIPT.run("promise 35: two chains", FOUR, "add(1, 1, 1, 0, 0) = 4",
                "add(1, 1, 1, 0, 0) = 5; link(5, 3, 0) = 1; link(3, 1, 0) = 2; link(4, 2, 0) = 3",
                "link(2, 0, 0) = 4; orders() = 20; width() = 2");
        StringBuilder thirteen = new StringBuilder();
        for (int i = 0; i < 13; i++) {
            thirteen.append("add(0, 1, 1, 0, 0) = ").append(i).append(";");
        }
        SCRIPT.run("promise 35: twelve at the most", thirteen.toString(), "orders() = -4",
                "receive(9) = 0; orders() = -4; cancel(0) = 0; orders() = 479001600",
                "link(12, 1, 1) = 1; orders() = 239500800; add(0, 1, 1, 0, 0) = 13; orders() = -4",
                "revive(0) = 1; orders() = -4");
    }

    /** An item is before another one through items that have ended, too; a plan has only edges. */
    private static void endedItemsBetween() {
        SCRIPT.run("promises 30 to 35: orders through an item that has ended",
                "add(1, 2, 1, 0, 0) = 0",
                "add(1, 5, 1, 0, 0) = 1; add(1, 4, 1, 0, 0) = 2; link(0, 1, 1) = 1",
                "link(1, 2, 1) = 2; planLength(2, 0) = 11; cancel(1) = 0; state(2) = 1",
                "width() = 1; orders() = 1; slack(0) = 0; slack(2) = 0; planLength(2, 0) = 4",
                "planStart(2, 2, 0) = 0; planLength(1, 0) = 6");
    }
}
