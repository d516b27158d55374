/**
 * Ready times and deadlines that are "not greater than" the time, to the tick; attempts, pauses and
 * group limits to the last number; and which ticks count for the rank.
 */
public final class TimesTest {
    private static final Script SCRIPT = new Script();

    public static void main(String[] args) {
        readyTimes();
        delaysAfterWaiting();
        deadlines();
        ticksOneByOne();
        attempts();
        pauses();
        groupLimits();
        groups();
        ages();
        receipts();
        SCRIPT.end();
    }

    private static void readyTimes() {
        for (int delay = 0; delay <= 20; delay++) {
            String early = delay == 0 ? "" : "receive(1) = NONE;";
            String nearly = delay < 2 ? "" : "tick(" + (delay - 1) + ") = 0; receive(1) = NONE;";
            String last = delay == 0 ? "" : "tick(1) = 0;";
            SCRIPT.run("promise 10: a ready time not greater than the time, delay " + delay,
                    "add(1, 1, 1, 0, " + delay + ") = 0; property(0, 6) = " + delay, early, nearly,
                    last, "receive(1) = 0");
        }
        SCRIPT.run("promise 10: a ready time that is past", "add(1, 1, 1, 0, 1) = 0; tick(30) = 0",
                "property(0, 6) = 1; receive(1) = 0");
        SCRIPT.run("promise 2: the ready time counts from the present time", "tick(30) = 0",
                "add(1, 1, 1, 0, 20) = 0; property(0, 6) = 50; tick(19) = 0; receive(1) = NONE",
                "tick(1) = 0; receive(1) = 0");
    }

    private static void delaysAfterWaiting() {
        String two = "add(1, 1, 1, 0, 0) = 0; add(1, 1, 1, 0, 20) = 1; link(0, 1, 0) = 1;"
                + "tick(30) = 0; property(1, 6) = NONE; receive(30) = 0; tick(5) = 0;";
        SCRIPT.run("promise 12: present time plus delay after waiting", two, "finish(0, 1) = 1",
                "property(1, 6) = 55; tick(19) = 0; receive(1) = NONE; tick(1) = 0; receive(1) = 1");
        SCRIPT.run("promise 5: present time plus delay after waiting", two, "unlink(0, 1) = 0",
                "property(1, 6) = 55");
        SCRIPT.run("promise 16: present time plus delay after waiting", two, "cancel(0) = 1",
                "tick(2) = 0; revive(0) = 1; property(0, 6) = 37; revive(1) = 0; unlink(0, 1) = 0",
                "property(1, 6) = 57");
        SCRIPT.run("promise 17: present time plus delay after waiting", "add(1, 1, 1, 0, 0) = 0",
                "add(1, 1, 1, 0, 20) = 1; link(0, 1, 1) = 1; receive(3) = 0; tick(30) = 1",
                "state(0) = 6; state(1) = 1; property(1, 6) = 23; receive(1) = 1");
        SCRIPT.run("promise 39: the present time", "tick(9) = 0; text(1w1,); load() = 1",
                "property(0, 6) = 9; property(0, 4) = 0; receive(1) = 0");
    }

    private static void deadlines() {
        for (int visibility = 1; visibility <= 30; visibility++) {
            String nearly = visibility == 1 ? "" : "tick(" + (visibility - 1) + ") = 0;";
            SCRIPT.run("promise 17: a deadline not greater than the time, " + visibility,
                    "add(1, 1, 2, 0, 0) = 0; tick(3) = 0; receive(" + visibility + ") = 0",
                    "property(0, 7) = " + (3 + visibility), nearly, "state(0) = 2; finish(0, 0) = -6",
                    "tick(1) = 1; state(0) = 1; property(0, 6) = " + (3 + visibility),
                    "property(0, 7) = NONE");
        }
        SCRIPT.run("promise 14: a deadline brought forward", "add(1, 1, 2, 0, 0) = 0",
                "receive(30) = 0; tick(4) = 0; extend(0, 1, 1) = 30; property(0, 7) = 5",
                "tick(1) = 1; state(0) = 1; tick(30) = 0");
        SCRIPT.run("promise 14: a deadline put off again and again", "add(1, 1, 2, 0, 0) = 0",
                "receive(1) = 0; extend(0, 1, 30) = 1; tick(29) = 0; extend(0, 1, 30) = 30",
                "tick(29) = 0; state(0) = 2; property(0, 7) = 59; tick(1) = 1; time() = 59");
        SCRIPT.run("promise 12: at the last moment", "add(1, 1, 1, 0, 0) = 0; receive(5) = 0",
                "tick(4) = 0; finish(0, 1) = 0; tick(1) = 0; state(0) = 3");
        SCRIPT.run("promise 12: a tick too late", "add(1, 1, 2, 0, 0) = 0; receive(5) = 0",
                "tick(5) = 1; finish(0, 1) = STALE; state(0) = 1");
        SCRIPT.run("promise 13: a tick too late", "add(1, 1, 2, 0, 0) = 0; receive(5) = 0",
                "tick(5) = 1; giveBack(0, 1, 0) = STALE; property(0, 6) = 5");
        SCRIPT.run("promise 14: a tick too late", "add(1, 1, 1, 0, 0) = 0; receive(5) = 0",
                "tick(5) = 1; extend(0, 1, 5) = STALE; state(0) = 6");
    }

    private static void ticksOneByOne() {
        SCRIPT.run("promise 17: many ticks are as many single ones", "add(1, 1, 2, 0, 9) = 0",
                "add(1, 1, 1, 0, 0) = 1; add(1, 1, 1, 0, 4) = 2; link(1, 2, 1) = 1; tick(9) = 0",
                "receive(2) = 0; receive(3) = 1; tick(30) = 2; property(0, 6) = 11; state(1) = 6",
                // By the end of 1 at the time 12.
                "property(2, 6) = 16; setPolicy(2) = 0; rank(0) = 380; rank(2) = 370");
        SCRIPT.run("promise 17: all items return at once",
                Script.repeat(20, "add(1, 1, 2, 0, 0) = #"),
                "setGroupLimit(9) = 9;", Script.repeat(9, "receive(30) = #"), "receive(30) = NONE",
                "tick(29) = 0; itemsIn(2) = 511; tick(1) = 9; itemsIn(2) = 0; itemsIn(1) = 1048575");
        SCRIPT.run("promise 17: those that became dead count, too", "add(2, 1, 1, 0, 0) = 0",
                "add(1, 1, 2, 0, 0) = 1; receive(1) = 0; receive(1) = 1; tick(1) = 2; state(0) = 6",
                "state(1) = 1; tick(1) = 0");
        SCRIPT.run("promise 17: doomed and ready items do not count", "add(2, 1, 1, 0, 0) = 0",
                "add(1, 1, 2, 0, 0) = 1; add(1, 1, 2, 0, 0) = 2; link(0, 1, 0) = 1; link(0, 2, 1) = 2",
                "receive(1) = 0; tick(1) = 1; state(1) = 5; state(2) = 1");
    }

    private static void attempts() {
        for (int attempts = 1; attempts <= 5; attempts++) {
            StringBuilder byTick = new StringBuilder();
            StringBuilder byGiveBack = new StringBuilder();
            for (int k = 1; k <= attempts; k++) {
                int due = k < attempts ? 1 : 6;
                byTick.append("receive(1) = 0; property(0, 5) = " + k + "; tick(1) = 1;"
                        + "state(0) = " + due + "; property(0, 5) = " + k + ";");
                byGiveBack.append("receive(1) = 0; giveBack(0, " + k + ", 0) = " + due + ";"
                        + "state(0) = " + due + "; property(0, 5) = " + k + ";");
            }
            String item = "add(1, 1, " + attempts + ", 0, 0) = 0;";
            SCRIPT.run("promise 17: dead after " + attempts, item, byTick.toString(),
                    "receive(1) = NONE; revive(0) = 1; property(0, 5) = 0");
            SCRIPT.run("promise 13: dead after " + attempts, item, byGiveBack.toString(),
                    "receive(1) = NONE; revive(0) = 1; property(0, 5) = 0");
            SCRIPT.run("promise 16: all attempts again", item, byTick.toString(), "revive(0) = 1",
                    byTick.toString());
        }
        SCRIPT.run("promise 12: done at the last attempt", "add(1, 1, 2, 0, 0) = 0; receive(1) = 0",
                "tick(1) = 1; receive(1) = 0; property(0, 5) = 2; finish(0, 2) = 0; state(0) = 3");
    }

    /** pause * 2 to the power of (receives - 1), for all pauses and all numbers of receives. */
    private static void pauses() {
        for (int pause = 0; pause <= 10; pause++) {
            StringBuilder calls = new StringBuilder("add(1, 1, 5, 0, 20) = 0; tick(20) = 0;");
            int time = 20;
            for (int receives = 1; receives <= 4; receives++) {
                int wait = pause << receives - 1;
                calls.append("receive(30) = 0; giveBack(0, " + receives + ", " + pause + ") = 1;"
                        + "property(0, 6) = " + (time + wait) + ";");
                for (int left = wait; left > 0; left -= 30) {
                    calls.append("receive(30) = NONE; tick(" + Math.min(30, left) + ") = 0;");
                }
                time += wait;
            }
            SCRIPT.run("promise 13: pause " + pause, calls.toString(), "receive(1) = 0",
                    "giveBack(0, 5, " + pause + ") = 6; property(0, 6) = NONE");
        }
        SCRIPT.run("promise 13: the receives count anew after revive()", "add(1, 1, 2, 0, 0) = 0",
                "receive(9) = 0; giveBack(0, 1, 0) = 1; receive(9) = 0; giveBack(0, 2, 3) = 6",
                "revive(0) = 1; receive(9) = 0; giveBack(0, 3, 3) = 1; property(0, 6) = 3");
    }

    private static void groupLimits() {
        String twenty = Script.repeat(20, "add(1, 1, 1, 2, 0) = #");
        for (int limit = 1; limit <= 9; limit++) {
            SCRIPT.run("promise 8: fewer items in flight than " + limit, twenty,
                    "setGroupLimit(" + limit + ") = 9;", Script.repeat(limit, "receive(30) = #"),
                    "receive(30) = NONE; finish(0, 1) = 0; receive(30) = " + limit,
                    "receive(30) = NONE");
        }
        SCRIPT.run("promise 8: a limit below what is in flight", twenty, "receive(30) = 0",
                "receive(30) = 1; receive(30) = 2; setGroupLimit(2) = 9; receive(30) = NONE",
                "finish(0, 1) = 0; receive(30) = NONE; finish(1, 2) = 0; receive(30) = 3",
                "receive(30) = NONE; setGroupLimit(9) = 2; receive(30) = 4");
        SCRIPT.run("promise 10: what ends an item in flight makes room", "setGroupLimit(1) = 9",
                twenty, "receive(1) = 0; receive(1) = NONE; tick(1) = 1; state(0) = 6",
                "receive(1) = 1; receive(1) = NONE; cancel(1) = 0; receive(1) = 2",
                "giveBack(2, 3, 0) = 6; receive(1) = 3");
    }

    private static void groups() {
        SCRIPT.run("promise 10: each group has its own limit", "setGroupLimit(1) = 9",
                Script.repeat(4, "add(1, 1, 1, #, 0) = #"),
                "add(9, 1, 1, 0, 0) = 4; add(9, 1, 1, 3, 0) = 5; receive(9) = 4; receive(9) = 5",
                "receive(9) = 1; receive(9) = 2; receive(9) = NONE; finish(4, 1) = 0; receive(9) = 0",
                "receive(9) = NONE; finish(5, 2) = 0; receive(9) = 3; receive(9) = NONE");
    }

    private static void ages() {
        SCRIPT.run("promise 25: an age of 0", "setPolicy(2) = 0; add(1, 1, 1, 0, 20) = 0",
                "rank(0) = 100; tick(1) = 0; rank(0) = 110; tick(29) = 0; rank(0) = 400");
        SCRIPT.run("promise 25: the delay counts, too", "setPolicy(2) = 0; add(9, 1, 1, 0, 20) = 0",
                "add(0, 1, 1, 0, 0) = 1; tick(20) = 0; rank(0) = 1100; rank(1) = 200");
        SCRIPT.run("promise 25: the pause counts, too", "setPolicy(2) = 0; add(0, 1, 2, 0, 0) = 0",
                "tick(5) = 0; receive(9) = 0; rank(0) = 0; giveBack(0, 1, 10) = 1; rank(0) = 0",
                "tick(10) = 0; rank(0) = 100; property(0, 6) = 15");
        SCRIPT.run("promise 25: since the present time when it returns", "setPolicy(2) = 0",
                "add(0, 1, 2, 0, 0) = 0; receive(2) = 0; tick(5) = 1; rank(0) = 30");
        SCRIPT.run("promise 10: the age of 0 loses, an equal rank goes by number", "setPolicy(2) = 0",
                "add(0, 1, 1, 0, 0) = 0; tick(10) = 0; add(1, 1, 1, 0, 0) = 1; rank(0) = 100",
                "rank(1) = 100; receive(1) = 0");
        SCRIPT.run("promise 10: a tick less, and priority goes first", "setPolicy(2) = 0",
                "add(0, 1, 1, 0, 0) = 0; tick(9) = 0; add(1, 1, 1, 0, 0) = 1; receive(1) = 1");
        SCRIPT.run("promise 10: by height, an equal rank goes by number", "setPolicy(1) = 0",
                "add(0, 2, 1, 0, 0) = 0; add(0, 1, 1, 0, 0) = 1; add(0, 1, 1, 0, 0) = 2",
                "link(1, 2, 0) = 1; rank(0) = 2; rank(1) = 2; receive(1) = 0; receive(1) = 1");
    }

    private static void receipts() {
        String two = "add(2, 1, 5, 0, 0) = 0; add(1, 1, 5, 0, 0) = 1; receive(9) = 0;"
                + "receive(9) = 1; receipt(0) = 1; receipt(1) = 2;";
        SCRIPT.run("promise 11: counted for the whole queue", two, "giveBack(0, 1, 0) = 1",
                "receive(9) = 0; receipt(0) = 3; receipt(1) = 2");
        SCRIPT.run("promise 11: clear() leaves the number of receipts", two, "clear() = 2",
                "add(1, 1, 1, 0, 0) = 0; receipt(0) = NONE; receive(9) = 0; receipt(0) = 3");
        SCRIPT.run("promise 11: load() leaves the number of receipts", two, "text(1w1,)",
                "load() = 1; receipt(0) = NONE; receive(9) = 0; receipt(0) = 3");
        SCRIPT.run("promise 11: restore() restores the number of receipts", "save(0) = 0;", two,
                "save(1) = 2; restore(0) = 0; add(1, 1, 1, 0, 0) = 0; receive(9) = 0",
                "receipt(0) = 1; restore(1) = 2; giveBack(1, 2, 0) = 1; receive(9) = 1",
                "receipt(1) = 3");
        for (String call : new String[] {"finish(0, #)", "giveBack(0, #, 0)", "extend(0, #, 9)"}) {
            for (int receipt : new int[] {0, 2, 3, -1, -7, Integer.MIN_VALUE, Integer.MAX_VALUE}) {
                SCRIPT.run("promises 12 to 14: the receipt " + receipt, two, call.replace("#",
                        Integer.toString(receipt)) + " = STALE; state(0) = 2; property(0, 7) = 9");
            }
        }
        SCRIPT.run("promise 11: a refused receive() takes no receipt", "receive(9) = NONE",
                "receive(0) = BAD_VALUE; receive(31) = BAD_VALUE;", two);
    }
}
