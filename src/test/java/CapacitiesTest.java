/**
 * What is empty and what is full: 20 items and the 21st, 200 characters and the 201st, a 21st item
 * in a text, 12 and 13 items that have not ended, all the edges that 20 items can have; and a queue,
 * a text and a slot that hold nothing.
 */
public final class CapacitiesTest {
    private static final String ITEM = "add(1, 1, 1, 0, 0)";
    private static final String TWENTY = Script.repeat(20, ITEM + " = #");

    private static final Script SCRIPT = new Script();

    public static void main(String[] args) {
        emptyQueue();
        emptyTextAndSlots();
        items();
        itemsByOtherWays();
        edges();
        longestPath();
        orders();
        text();
        itemsOfText();
        SCRIPT.end();
    }

    private static void emptyQueue() {
        for (String queue : new String[] {"", TWENTY + "clear() = 20;", TWENTY + "load() = 0;",
            "save(1) = 0;" + TWENTY + "restore(1) = 0;"}) {
            SCRIPT.run("promises 1, 9: clear() of an empty queue", queue, "clear() = 0; clear() = 0",
                    "items() = 0");
            SCRIPT.run("promises 1, 10, 17: no item to receive", queue, "receive(1) = NONE",
                    "receive(30) = NONE; tick(30) = 0; receive(1) = NONE; time() = 30");
            SCRIPT.run("promises 18 to 20: an empty queue", queue, "items() = 0; edges() = 0",
                    "time() = 0");
            SCRIPT.run("promise 22: an empty queue", queue, Script.repeat(7, "itemsIn(#) = 0"),
                    "itemsIn(-1) = BAD_VALUE; itemsIn(7) = BAD_VALUE");
            SCRIPT.run("promise 30: 0 if there are no items to plan", queue, "planLength(1, 0) = 0",
                    "planLength(6, 2) = 0");
            SCRIPT.run("promise 32: an empty queue", queue, "bestWorkers(0) = 1",
                    "bestWorkers(1) = 1; bestWorkers(2) = 1");
            SCRIPT.run("promise 34: width of an empty queue", queue, "width() = 0");
            SCRIPT.run("promise 35: orders of an empty queue", queue, "orders() = 1");
            SCRIPT.run("promises 40, 41: an empty queue is saved", queue, "save(0) = 0;",
                    ITEM + " = 0; restore(0) = 0; items() = 0; state(0) = BAD_ITEM");
            SCRIPT.run("promise 2: the first item", queue, ITEM + " = 0; items() = 1; state(0) = 1");
        }
        SCRIPT.run("promise 1: time, policy, group limit", "time() = 0; setPolicy(1) = 0",
                "setPolicy(0) = 1; setGroupLimit(3) = 9; setGroupLimit(9) = 3");
        SCRIPT.run("promise 1: the first receipt", ITEM + " = 0; receive(1) = 0; receipt(0) = 1");
        SCRIPT.run("promise 1: nothing for witness()", "witness(0) = NONE");
        SCRIPT.run("promises 34, 35: all items have ended",
                TWENTY + Script.repeat(20, "cancel(#) = 0"),
                "width() = 0; orders() = 1; planLength(1, 0) = 0; bestWorkers(0) = 1; items() = 20");
    }

    private static void emptyTextAndSlots() {
        SCRIPT.run("promise 1: the text is empty", "wipe() = 0; write(53) = 1");
        SCRIPT.run("promise 37: an empty text", "write(53) = 1; wipe() = 1; wipe() = 0; wipe() = 0",
                "write(53) = 1");
        SCRIPT.run("promise 38: an empty text has no fault", "fault() = NONE; write(53) = 1",
                "fault() = 1; wipe() = 1; fault() = NONE");
        SCRIPT.run("promise 39: an empty text is an empty queue", TWENTY, "link(0, 1, 0) = 1",
                "load() = 0; items() = 0; edges() = 0; state(0) = BAD_ITEM; load() = 0");
        SCRIPT.run("promises 1, 41: nothing is saved", "restore(0) = NOT_POSSIBLE",
                "restore(1) = NOT_POSSIBLE; save(0) = 0; restore(1) = NOT_POSSIBLE",
                "restore(0) = 0; save(1) = 0; restore(1) = 0");
        for (String call : new String[] {"clear() = 1", "load() = 0"}) {
            SCRIPT.run("promises 9, 39: both slots stay", ITEM + " = 0; save(0) = 1;" + ITEM + " = 1",
                    "save(1) = 2; restore(0) = 1", call, "restore(0) = 1; restore(1) = 2;",
                    "cancel(0) = 0; restore(1) = 2; state(0) = 1");
        }
        SCRIPT.run("promise 41: the other slot stays empty", ITEM + " = 0; save(1) = 1",
                "restore(0) = NOT_POSSIBLE; clear() = 1; restore(0) = NOT_POSSIBLE",
                "restore(1) = 1; restore(1) = 1; restore(0) = NOT_POSSIBLE");
    }

    private static void items() {
        SCRIPT.run("promise 2: 20 items and the 21st", TWENTY, ITEM + " = FULL; items() = 20",
                ITEM + " = FULL; state(19) = 1; state(20) = BAD_ITEM; itemsIn(1) = 1048575");
        SCRIPT.run("promise 2: 19 items and the 20th", Script.repeat(19, ITEM + " = #"),
                "items() = 19; state(19) = BAD_ITEM; itemsIn(1) = 524287;" + ITEM + " = 19",
                "items() = 20; state(19) = 1; itemsIn(1) = 1048575");
        SCRIPT.run("promise 2: items that have ended are not removed", TWENTY,
                Script.repeat(20, "cancel(#) = 0"), ITEM + " = FULL; items() = 20",
                "itemsIn(4) = 1048575; revive(19) = 1;" + ITEM + " = FULL");
        SCRIPT.run("promise 2: done and dead items are not removed", TWENTY, "receive(1) = 0",
                "finish(0, 1) = 0; receive(1) = 1; tick(1) = 1; state(1) = 6;" + ITEM + " = FULL");
        SCRIPT.run("promise 9: clear() makes room", TWENTY, "clear() = 20; items() = 0;", TWENTY,
                ITEM + " = FULL; clear() = 20; clear() = 0");
    }

    private static void itemsByOtherWays() {
        SCRIPT.run("promise 2: 20 items from a text", "text(" + "1w1,".repeat(20) + "); load() = 20",
                ITEM + " = FULL; items() = 20; state(19) = 1; wipe() = 80; load() = 0;",
                ITEM + " = 0");
        SCRIPT.run("promise 2: 19 items from a text", "text(" + "1w1,".repeat(19) + "); load() = 19",
                ITEM + " = 19;" + ITEM + " = FULL; load() = 19; items() = 19");
        SCRIPT.run("promise 2: 20 items from a slot", TWENTY, "save(0) = 20; clear() = 20",
                ITEM + " = 0; restore(0) = 20;" + ITEM + " = FULL; items() = 20");
        SCRIPT.run("promise 2: 19 items from a slot", Script.repeat(19, ITEM + " = #"),
                "save(1) = 19;" + ITEM + " = 19;" + ITEM + " = FULL; restore(1) = 19;",
                ITEM + " = 19;" + ITEM + " = FULL");
    }

    /** All pairs are linked from the lower to the higher item, even and odd ones by end edges. */
    private static void edges() {
        StringBuilder all = new StringBuilder(TWENTY);
        int count = 0;
        for (int to = 1; to < 20; to++) {
            for (int from = 0; from < to; from++) {
                count++;
                all.append("link(" + from + ", " + to + ", " + (from + to) % 2 + ") = " + count + ";");
            }
        }
        SCRIPT.run("promises 3, 19: all the edges of 20 items", all.toString(), "edges() = 190",
                "link(0, 19, 0) = 190; edge(0, 19) = 0; link(0, 19, 1) = 190; edges() = 190",
                "itemsIn(0) = 1048574; itemsIn(1) = 1; width() = 1; orders() = NOT_POSSIBLE");
        SCRIPT.run("promise 4: the last item to the first", all.toString(), "link(19, 0, 0) = CYCLE",
                "witness(0) = 0; witness(1) = 19; witness(2) = NONE; edges() = 190");
        SCRIPT.run("promise 5: all the edges of 20 items", all.toString(), "unlink(18, 19) = 189",
                "unlink(18, 19) = NOT_POSSIBLE; unlink(0, 19) = 188; edges() = 188");
        SCRIPT.run("promises 26, 27: all the edges of 20 items", all.toString(), "height(0) = 20",
                "height(19) = 1; before(19) = 524287; before(0) = 0; before(18) = 262143");
        SCRIPT.run("promises 28, 29: all the edges of 20 items", all.toString(),
                "wouldDoom(0) = 349524; wouldDoom(18) = 0; wouldDoom(17) = 524288",
                "isSuperfluous(0, 19) = 1; isSuperfluous(18, 19) = 0; isSuperfluous(17, 19) = 1");
        SCRIPT.run("promises 30 to 33: all the edges of 20 items", all.toString(),
                "planLength(6, 0) = 20; planStart(19, 6, 1) = 19; bestWorkers(2) = 1; slack(0) = 0",
                "slack(19) = 0");
        SCRIPT.run("promise 15: all the edges of 20 items", all.toString(), "cancel(0) = 9",
                "itemsIn(5) = 349524; itemsIn(4) = 1; itemsIn(1) = 2; itemsIn(0) = 699048");
        SCRIPT.run("promises 40, 41: all the edges of 20 items", all.toString(), "save(0) = 20",
                "clear() = 20; edges() = 0; restore(0) = 20; edges() = 190; before(19) = 524287");
    }

    /** From 19 down to 0, so that every settling goes against the numbers. */
    private static void longestPath() {
        String chain = Script.repeat(20, "add(9, 20, 1, 3, 20) = #") + chainDown();
        SCRIPT.run("promise 4: a path of 20 items", chain, "link(0, 19, 0) = CYCLE; witness(0) = 19",
                "witness(18) = 1; witness(19) = 0; witness(20) = NONE; witness(MAX) = NONE");
        SCRIPT.run("promise 15: 19 items become doomed one after the other", chain,
                "wouldDoom(19) = 524287; cancel(19) = 19; itemsIn(5) = 524287; revive(19) = 1");
        SCRIPT.run("promises 25, 26: the greatest height", chain, "height(19) = 400; height(0) = 20",
                "setPolicy(1) = 0; rank(19) = 1300; rank(0) = 920");
        SCRIPT.run("promises 30, 31, 33: the longest plan", chain, "planLength(1, 0) = 400",
                "planLength(6, 2) = 400; planStart(0, 6, 2) = 380; slack(0) = 0; slack(19) = 0");
        SCRIPT.run("promise 33: the greatest slack", Script.repeat(19, "add(9, 20, 1, 3, 20) = #"),
                chainDown().replaceFirst("link\\(19, 18, 0\\) = \\d+;", ""),
                "add(0, 1, 1, 0, 0) = 19; slack(19) = 379; slack(0) = 0; width() = 2");
        SCRIPT.run("promise 34: 20 items without edges", TWENTY, "width() = 20; bestWorkers(0) = 5",
                "planLength(6, 0) = 4; planLength(5, 0) = 4; planLength(4, 0) = 5",
                "link(0, 19, 1) = 1; width() = 19");
    }

    private static String chainDown() {
        StringBuilder links = new StringBuilder();
        for (int to = 0; to < 19; to++) {
            links.append("link(" + (to + 1) + ", " + to + ", 0) = " + (to + 1) + ";");
        }
        return links.toString();
    }

    private static void orders() {
        String twelve = Script.repeat(12, ITEM + " = #");
        SCRIPT.run("promise 35: 12 items that have not ended", twelve, "orders() = 479001600");
        SCRIPT.run("promise 35: 13 items that have not ended", twelve, ITEM + " = 12",
                "orders() = NOT_POSSIBLE; cancel(5) = 0; orders() = 479001600; revive(5) = 1",
                "orders() = NOT_POSSIBLE");
        SCRIPT.run("promise 35: waiting and in flight have not ended", twelve, ITEM + " = 12",
                "link(0, 12, 0) = 1; receive(9) = 0; orders() = NOT_POSSIBLE; finish(0, 1) = 1",
                "orders() = 479001600");
        SCRIPT.run("promise 35: a chain of 13", twelve, ITEM + " = 12", chainDown()
                .substring(0, chainDown().indexOf("link(13,")), "orders() = NOT_POSSIBLE",
                "receive(1) = 12; finish(12, 1) = 1; orders() = 1");
        SCRIPT.run("promise 35: the last 12 of 20", TWENTY, "orders() = NOT_POSSIBLE",
                Script.repeat(7, "cancel(#) = 0"), "orders() = NOT_POSSIBLE; cancel(7) = 0",
                "orders() = 479001600; link(8, 19, 0) = 1; orders() = 239500800");
        SCRIPT.run("promise 35: one item, and two", ITEM + " = 0; orders() = 1;" + ITEM + " = 1",
                "orders() = 2; link(1, 0, 0) = 1; orders() = 1");
    }

    private static void text() {
        String most = Script.writing("~".repeat(199));
        SCRIPT.run("promise 36: 199 characters and the 200th", most, "write(32) = 200",
                "write(32) = FULL; wipe() = 200; write(32) = 1");
        SCRIPT.run("promise 36: 200 characters and the 201st", Script.writing("~".repeat(200)),
                "write(59) = FULL; write(59) = FULL; fault() = 0; wipe() = 200; wipe() = 0",
                "write(59) = 1; wipe() = 1");
        String good = "0w1;0w1;" + "0w01<00!01;".repeat(17) + "0w1;";
        SCRIPT.run("promise 38: the text ends within an item at 200", Script.writing(good
                + "0"), "fault() = 199");
        String ended = "0w1;" + "0w1<0;" + "0w1<00<01;".repeat(17) + "0w01<00<01<02<03!04;";
        SCRIPT.run("promises 38, 39: 200 characters without a fault", Script.writing(ended),
                "fault() = NONE; load() = 20; edges() = 40; edge(4, 19) = 1; wipe() = 200");
        String unended = ended.substring(0, 199);
        SCRIPT.run("promise 38: the fault is the length 199", Script.writing(unended),
                "fault() = 199; load() = NOT_POSSIBLE; write(60) = 200; fault() = 200",
                "load() = NOT_POSSIBLE; write(59) = FULL; fault() = 200");
        String cut = ended.substring(0, 197);
        SCRIPT.run("promise 38: a third digit at the end", Script.writing(cut + "055"),
                "fault() = 199; write(59) = FULL");
        SCRIPT.run("promise 38: the number at the end is checked", Script.writing(cut + "99"),
                "fault() = 197");
        SCRIPT.run("promise 38: no number at the end", Script.writing(cut), "fault() = 197");
    }

    private static void itemsOfText() {
        String twenty = "9w20;".repeat(20);
        SCRIPT.run("promise 38: 20 items in a text", Script.writing(twenty), "fault() = NONE",
                "load() = 20; items() = 20; property(19, 1) = 20");
        SCRIPT.run("promise 38: a 21st item in a text", Script.writing(twenty + "9w20;"),
                "fault() = 100; load() = NOT_POSSIBLE; items() = 0");
        SCRIPT.run("promise 38: a 21st item that has just begun", Script.writing(twenty + "9"),
                "fault() = 100; load() = NOT_POSSIBLE");
        SCRIPT.run("promise 38: a 21st item with faults of its own", Script.writing(twenty + "9w0;"),
                "fault() = 100");
        SCRIPT.run("promise 38: no item behind the 20th", Script.writing(twenty + "w"),
                "fault() = 100");
        SCRIPT.run("promise 38: an earlier fault is told first", Script.writing("9w21;"
                + twenty), "fault() = 2");
        SCRIPT.run("promise 38: a fault in the 20th item", Script.writing("9w20;".repeat(19)
                + "9w20<19;9w1;"), "fault() = 100");
        SCRIPT.run("promise 38: the 20th item after the 19th", Script.writing("9w20;".repeat(19)
                + "9w20<18;"), "fault() = NONE; load() = 20; edge(18, 19) = 0");
    }
}
