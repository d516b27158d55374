/** Promises 10 to 17: work. */
public final class WorkTest {
    private static final String THREE =
            "add(1, 1, 1, 0, 0) = 0; add(1, 1, 1, 0, 0) = 1; add(1, 1, 1, 0, 0) = 2;";

    private static final Script SCRIPT = new Script();

    public static void main(String[] args) {
        receive();
        receiveByGroup();
        receipt();
        finish();
        giveBack();
        extend();
        cancel();
        revive();
        settlingGoesInOrder();
        tick();
        SCRIPT.end();
    }

    private static void receive() {
        SCRIPT.run("promise 10: values", "receive(0) = -2; receive(31) = -2; receive(1) = -7",
                "add(1, 1, 5, 0, 0) = 0; receive(31) = -2; receive(-1) = -2; state(0) = 1",
                "tick(4) = 0; receive(30) = 0; state(0) = 2; property(0, 7) = 34",
                "property(0, 5) = 1; property(0, 6) = -7; receive(1) = -7; receive(31) = -2");
        SCRIPT.run("promise 10: the greatest rank, then the lowest number",
                "add(3, 1, 1, 0, 0) = 0; add(5, 1, 1, 0, 0) = 1; add(5, 1, 1, 0, 0) = 2",
                "receive(1) = 1; receive(1) = 2; receive(1) = 0; receive(1) = -7");
        SCRIPT.run("promise 10: by height", "add(1, 5, 1, 0, 0) = 0; add(1, 9, 1, 0, 0) = 1",
                "add(0, 6, 1, 0, 0) = 2; link(0, 2, 0) = 1; setPolicy(1) = 0; rank(0) = 111",
                "rank(1) = 109; receive(1) = 0; receive(1) = 1; receive(1) = -7");
        SCRIPT.run("promise 10: by height, against the numbers", "add(1, 5, 1, 0, 0) = 0",
                "add(1, 9, 1, 0, 0) = 1; setPolicy(1) = 0; receive(1) = 1");
        SCRIPT.run("promise 10: by age", "setPolicy(2) = 0; add(1, 1, 1, 0, 0) = 0",
                "tick(9) = 0; add(2, 1, 1, 0, 0) = 1; rank(0) = 190; rank(1) = 200",
                "receive(1) = 1");
        SCRIPT.run("promise 10: by age, equal ranks", "setPolicy(2) = 0; add(1, 1, 1, 0, 0) = 0",
                "tick(10) = 0; add(2, 1, 1, 0, 0) = 1; receive(1) = 0");
        SCRIPT.run("promise 10: ready times", "add(9, 1, 1, 0, 2) = 0; add(0, 1, 1, 0, 0) = 1",
                "receive(1) = 1; receive(1) = -7; tick(1) = 1; receive(1) = -7; tick(1) = 0",
                "receive(1) = 0");
    }

    private static void receiveByGroup() {
        SCRIPT.run("promise 10: the group limit", "setGroupLimit(1) = 9; add(5, 1, 1, 1, 0) = 0",
                "add(4, 1, 1, 1, 0) = 1; add(3, 1, 1, 2, 0) = 2; receive(9) = 0; receive(9) = 2",
                "receive(9) = -7; setGroupLimit(2) = 1; receive(9) = 1; setGroupLimit(1) = 2",
                "finish(0, 1) = 0; add(9, 1, 1, 1, 0) = 3; receive(9) = -7; finish(1, 3) = 0",
                "receive(9) = 3; receipt(3) = 4");
        StringBuilder ten = new StringBuilder();
        StringBuilder nine = new StringBuilder();
        for (int i = 0; i < 10; i++) {
            ten.append("add(1, 1, 1, 3, 0) = ").append(i).append(";");
            nine.append("receive(30) = ").append(i < 9 ? i : -7).append(";");
        }
        SCRIPT.run("promise 10: the first group limit", ten.toString(), nine.toString(),
                "cancel(4) = 0; receive(30) = 9");
    }

    private static void receipt() {
        SCRIPT.run("promise 11", "receipt(0) = -1; add(1, 1, 2, 0, 0) = 0; receipt(0) = -7",
                "receipt(-1) = -1; receipt(1) = -1; receive(1) = 0; receipt(0) = 1; tick(1) = 1",
                "receipt(0) = 1; receive(1) = 0; receipt(0) = 2; finish(0, 2) = 0; receipt(0) = 2",
                "add(1, 1, 1, 0, 0) = 1; receive(1) = 1; receipt(1) = 3; tick(1) = 1",
                "receipt(1) = 3; revive(1) = 1; receipt(1) = -7; receive(1) = 1; receipt(1) = 4",
                "receipt(0) = 2");
    }

    private static void finish() {
        SCRIPT.run("promise 12", "add(1, 1, 2, 0, 0) = 0; add(1, 1, 1, 0, 0) = 1",
                "add(1, 1, 1, 0, 4) = 2; add(1, 1, 1, 0, 0) = 3; link(0, 1, 0) = 1",
                "link(0, 2, 1) = 2; link(0, 3, 0) = 3; link(1, 3, 0) = 4; finish(4, 1) = -1",
                "finish(-1, 1) = -1; finish(0, 0) = -6; finish(0, 1) = -6; receive(3) = 0",
                "finish(0, 2) = -6; finish(0, 0) = -6; finish(0, -7) = -6; finish(1, 1) = -6",
                "tick(2) = 0; finish(0, 1) = 2; state(0) = 3; state(1) = 1; state(2) = 1",
                "state(3) = 0; property(1, 6) = 2; property(2, 6) = 6; receipt(0) = 1",
                "finish(0, 1) = -6; property(0, 5) = 1; receive(1) = 1; finish(1, 2) = 1",
                "state(3) = 1; tick(9) = 0; state(1) = 3");
        SCRIPT.run("promise 12: only the latest receipt", "add(1, 1, 3, 0, 0) = 0; receive(1) = 0",
                "tick(1) = 1; finish(0, 1) = -6; receive(1) = 0; finish(0, 1) = -6",
                "receipt(0) = 2; finish(0, 2) = 0; state(0) = 3");
    }

    private static void giveBack() {
        SCRIPT.run("promise 13: pauses", "add(1, 1, 5, 0, 0) = 0; receive(30) = 0",
                "giveBack(0, 1, -1) = -2; giveBack(0, 1, 11) = -2; giveBack(1, 1, 11) = -1",
                "giveBack(0, 2, 11) = -2; giveBack(0, 2, 3) = -6; state(0) = 2",
                "giveBack(0, 1, 3) = 1; property(0, 6) = 3; property(0, 5) = 1; receive(1) = -7",
                "giveBack(0, 1, 3) = -6; tick(3) = 0; receive(30) = 0; giveBack(0, 2, 3) = 1",
                "property(0, 6) = 9; tick(6) = 0; receive(30) = 0; giveBack(0, 3, 3) = 1",
                "property(0, 6) = 21; tick(12) = 0; receive(30) = 0; giveBack(0, 4, 10) = 1",
                "property(0, 6) = 101; tick(30) = 0; tick(30) = 0; tick(19) = 0; receive(1) = -7",
                "tick(1) = 0; time() = 101; receive(1) = 0; giveBack(0, 5, 0) = 6; state(0) = 6",
                "property(0, 6) = -7; property(0, 5) = 5; receipt(0) = 5");
        SCRIPT.run("promise 13: no pause, and ready since", "add(1, 1, 2, 0, 7) = 0; tick(7) = 0",
                "receive(9) = 0; tick(3) = 0; giveBack(0, 1, 0) = 1; property(0, 6) = 10",
                "setPolicy(2) = 0; rank(0) = 100; tick(2) = 0; rank(0) = 120; receive(1) = 0");
        SCRIPT.run("promise 13: waiting", "add(1, 1, 1, 0, 0) = 0; add(1, 1, 3, 0, 2) = 1",
                "link(0, 1, 1) = 1; cancel(0) = 0; tick(2) = 0; receive(9) = 1; revive(0) = 1",
                "state(1) = 2; giveBack(1, 1, 0) = 0; state(1) = 0; property(1, 6) = -7",
                "cancel(0) = 0; state(1) = 1; property(1, 6) = 4; property(1, 5) = 1");
        SCRIPT.run("promise 13: dead", THREE, "link(0, 1, 0) = 1; link(0, 2, 1) = 2",
                "receive(5) = 0; giveBack(0, 1, 2) = 6; state(1) = 5; state(2) = 1");
    }

    private static void extend() {
        SCRIPT.run("promise 14", "add(1, 1, 3, 0, 0) = 0; extend(0, 1, 5) = -6; receive(4) = 0",
                "extend(1, 1, 5) = -1; extend(1, 1, 31) = -1; extend(0, 1, 0) = -2",
                "extend(0, 1, 31) = -2; extend(0, 7, 31) = -2; extend(0, 7, 5) = -6; tick(3) = 0",
                "extend(0, 1, 2) = 4; property(0, 7) = 5; extend(0, 1, 30) = 5",
                "property(0, 7) = 33; extend(0, 1, 1) = 33; property(0, 5) = 1; tick(1) = 1",
                "state(0) = 1; extend(0, 1, 5) = -6; receive(9) = 0; extend(0, 1, 5) = -6",
                "extend(0, 2, 5) = 13; finish(0, 2) = 0; extend(0, 2, 5) = -6");
    }

    private static void cancel() {
        SCRIPT.run("promise 15", THREE, "add(1, 1, 1, 0, 0) = 3; add(1, 1, 1, 0, 0) = 4",
                "link(0, 1, 0) = 1; link(1, 2, 0) = 2; link(1, 3, 1) = 3; link(0, 4, 1) = 4",
                "cancel(5) = -1; cancel(-1) = -1; cancel(0) = 2; state(0) = 4; state(1) = 5",
                "state(2) = 5; state(3) = 1; state(4) = 1; cancel(0) = -4; cancel(1) = -4",
                "receive(3) = 3; cancel(3) = 0; state(3) = 4; finish(3, 1) = -6; tick(5) = 0",
                "state(3) = 4; cancel(4) = 0; receive(1) = -7");
        SCRIPT.run("promise 15: against the numbers", THREE, "link(2, 1, 0) = 1; link(1, 0, 0) = 2",
                "cancel(2) = 2; itemsIn(5) = 3; itemsIn(4) = 4");
        SCRIPT.run("promise 15: only those that become doomed count", THREE,
                "add(1, 1, 1, 0, 0) = 3; link(0, 2, 0) = 1; link(1, 2, 0) = 2; link(1, 3, 0) = 3",
                "cancel(0) = 1; cancel(1) = 1; itemsIn(5) = 12");
        SCRIPT.run("promise 15: done and dead items", THREE, "receive(1) = 0; finish(0, 1) = 0",
                "cancel(0) = -4; receive(1) = 1; tick(1) = 1; cancel(1) = -4; state(1) = 6");
    }

    private static void revive() {
        SCRIPT.run("promise 16", "add(1, 1, 1, 0, 0) = 0; add(1, 1, 1, 0, 3) = 1",
                "add(1, 1, 2, 0, 0) = 2; link(0, 1, 0) = 1; revive(3) = -1; revive(-1) = -1",
                "revive(0) = -4; revive(1) = -4; receive(2) = 0; revive(0) = -4; tick(2) = 1",
                "state(0) = 6; state(1) = 5; property(0, 5) = 1; receipt(0) = 1; revive(1) = 5",
                "revive(0) = 1; property(0, 5) = 0; receipt(0) = -7; finish(0, 1) = -6",
                "finish(0, 0) = -6; property(0, 6) = 2; state(1) = 5; tick(4) = 0; revive(1) = 0",
                "property(1, 6) = -7; receive(9) = 0; receipt(0) = 2; property(0, 5) = 1",
                "finish(0, 2) = 1; property(1, 6) = 9; revive(0) = -4; state(0) = 3");
        SCRIPT.run("promise 16: the delay and the age begin anew", "add(1, 1, 1, 0, 5) = 0",
                "cancel(0) = 0; property(0, 6) = -7; tick(3) = 0; revive(0) = 1",
                "property(0, 6) = 8; setPolicy(2) = 0; tick(2) = 0; rank(0) = 120");
        SCRIPT.run("promise 16: a cancelled item in flight", "add(1, 1, 3, 0, 0) = 0",
                "receive(9) = 0; cancel(0) = 0; property(0, 7) = -7; revive(0) = 1",
                "finish(0, 1) = -6; receive(9) = 0; finish(0, 1) = -6; finish(0, 2) = 0");
        SCRIPT.run("promise 16: end edges wait again", THREE, "link(0, 1, 1) = 1; cancel(0) = 0",
                "state(1) = 1; revive(0) = 1; state(1) = 0; tick(4) = 0; cancel(0) = 0",
                "state(1) = 1; property(1, 6) = 4");
        SCRIPT.run("promise 16: doomed again, and what has been received is forgotten", THREE,
                "receive(9) = 0; finish(0, 1) = 0; link(0, 1, 0) = 1; link(2, 1, 0) = 2",
                "receive(9) = 2; receipt(2) = 2; cancel(2) = 1; revive(1) = 5; state(1) = 5",
                "revive(2) = 1; receipt(2) = -7; state(1) = 5; revive(1) = 0");
    }

    /** Ascending order, with what has been changed so far. */
    private static void settlingGoesInOrder() {
        SCRIPT.run("promise 16: settling, a lower item waits for a moment", "add(1, 1, 1, 0, 4) = 0",
                "add(1, 1, 1, 0, 0) = 1; add(1, 1, 1, 0, 0) = 2; link(1, 0, 1) = 1",
                "link(2, 1, 0) = 2; cancel(2) = 1; state(0) = 1; property(0, 6) = 4; tick(1) = 0",
                "revive(1) = 5; state(0) = 1; property(0, 6) = 5");
        SCRIPT.run("promise 16: settling, a higher item does not", "add(1, 1, 1, 0, 0) = 0",
                "add(1, 1, 1, 0, 0) = 1; add(1, 1, 1, 0, 4) = 2; link(0, 1, 0) = 1",
                "link(1, 2, 1) = 2; cancel(0) = 1; property(2, 6) = 4; tick(1) = 0",
                "revive(1) = 5; state(2) = 1; property(2, 6) = 4");
    }

    private static void tick() {
        SCRIPT.run("promise 17: values", "tick(0) = -2; tick(31) = -2; tick(-1) = -2",
                "time() = 0; tick(1) = 0; tick(30) = 0; time() = 31");
        SCRIPT.run("promise 17: each tick for itself", "setPolicy(2) = 0; add(1, 1, 2, 0, 0) = 0",
                "add(1, 1, 1, 1, 0) = 1; add(1, 1, 1, 2, 3) = 2; link(1, 2, 1) = 1",
                "receive(1) = 0; receive(2) = 1; tick(5) = 2; state(0) = 1; state(1) = 6",
                "state(2) = 1; property(0, 6) = 1; rank(0) = 140; property(2, 6) = 5",
                "rank(2) = 130; tick(5) = 0");
        SCRIPT.run("promise 17: at the deadline, not earlier", "add(1, 1, 2, 0, 0) = 0",
                "receive(3) = 0; tick(2) = 0; state(0) = 2; tick(1) = 1; state(0) = 1",
                "receive(3) = 0; tick(30) = 1; state(0) = 6; property(0, 5) = 2");
        SCRIPT.run("promise 17: a dead item dooms", THREE, "link(1, 0, 0) = 1; link(0, 2, 0) = 2",
                "receive(1) = 1; tick(1) = 1; itemsIn(5) = 5; itemsIn(6) = 2");
        SCRIPT.run("promise 17: an item that returns may have to wait", "add(1, 1, 1, 0, 0) = 0",
                "add(1, 1, 3, 0, 0) = 1; link(0, 1, 1) = 1; cancel(0) = 0; receive(2) = 1",
                "revive(0) = 1; tick(2) = 1; state(1) = 0; property(1, 5) = 1");
    }
}
