import java.util.ArrayList;
import java.util.List;

/**
 * "A call that reports an error changes nothing, except that link() remembers the path for
 * witness() when it reports CYCLE." For each promise each refused call, with all that it must leave
 * unchanged: an object on which it was made is seen to be like one on which it was not.
 */
public final class RefusedTest {
    /**
     * Item 0 is done, 1 dead, 2 cancelled, 3 doomed, 4 in flight for the second time, 5 waiting, 6
     * to 8 ready; slot 0 holds an earlier queue, slot 1 nothing, witness() tells 4, 5, and there is
     * a text.
     */
    private static final String BUSY = "add(5, 3, 3, 0, 0) = 0; add(4, 2, 1, 1, 0) = 1;"
            + "add(3, 4, 2, 2, 4) = 2; add(2, 5, 4, 3, 2) = 3; add(6, 6, 5, 0, 1) = 4;"
            + "add(1, 7, 3, 1, 3) = 5; add(1, 8, 3, 2, 20) = 6; add(0, 9, 2, 0, 0) = 7;"
            + "add(2, 1, 3, 1, 0) = 8; link(0, 4, 0) = 1; link(2, 3, 0) = 2; link(4, 5, 1) = 3;"
            + "link(0, 5, 0) = 4; link(1, 8, 1) = 5; save(0) = 9; setPolicy(2) = 0;"
            + "receive(9) = 0; finish(0, 1) = 1; receive(1) = 1; tick(1) = 1; receive(2) = 4;"
            + "tick(2) = 1; receive(9) = 4; cancel(2) = 1; setGroupLimit(2) = 9;"
            + "link(5, 4, 0) = CYCLE; state(0) = 3; state(1) = 6; state(2) = 4; state(3) = 5;"
            + "state(4) = 2; state(5) = 0; itemsIn(1) = 448; receipt(4) = 4; time() = 3;"
            + Script.writing("5w3;2w2!0;");

    /** 20 items, and both slots are taken. */
    private static final String FULL_QUEUE = Script.repeat(19, "add(1, 2, 1, 3, 0) = #")
            + "save(1) = 19; add(1, 2, 1, 3, 0) = 19; link(0, 19, 1) = 1; save(0) = 20;";

    private static final Script SCRIPT = new Script();

    public static void main(String[] args) {
        badValues();
        badItems();
        notPossible();
        stale();
        full();
        cycle();
        noSuchThing();
        SCRIPT.end();
    }

    /** Each call, written with its answer, leaves all as it was after the setup. */
    private static void unchanged(String name, String setup, String... refused) {
        SCRIPT.run(name, setup);
        List<String> before = withoutAnswers(setup);
        List<String> seen = Sight.of(before);
        List<String> witness = Sight.ofWitness(before);
        for (String call : Script.callsOf(refused)) {
            SCRIPT.run(name, setup, call, call);
            List<String> after = new ArrayList<>(before);
            after.addAll(withoutAnswers(call));
            compare(name + ", after " + call, seen, Sight.of(after));
            if (!call.endsWith("CYCLE")) {
                compare(name + ", after " + call, witness, Sight.ofWitness(after));
            }
        }
    }

    private static List<String> withoutAnswers(String calls) {
        List<String> found = new ArrayList<>();
        for (String call : Script.callsOf(calls)) {
            found.add(call.substring(0, call.lastIndexOf(')') + 1));
        }
        return found;
    }

    private static void compare(String name, List<String> due, List<String> got) {
        for (int i = 0; i < Math.max(due.size(), got.size()); i++) {
            String dueHere = i < due.size() ? due.get(i) : "nothing";
            String gotHere = i < got.size() ? got.get(i) : "nothing";
            if (!dueHere.equals(gotHere)) {
                SCRIPT.fail(name + ": " + gotHere + ", due is " + dueHere);
                return;
            }
        }
    }

    private static void badValues() {
        unchanged("promise 2: BAD_VALUE", BUSY, "add(10, 1, 1, 0, 0) = BAD_VALUE",
                "add(1, 21, 1, 0, 0) = BAD_VALUE; add(1, 1, 6, 0, 0) = BAD_VALUE",
                "add(1, 1, 1, 4, 0) = BAD_VALUE; add(1, 1, 1, 0, 21) = BAD_VALUE",
                "add(-1, 0, 0, -1, -1) = BAD_VALUE");
        unchanged("promise 3: BAD_VALUE", BUSY, "link(0, 4, 2) = BAD_VALUE",
                "link(4, 5, -1) = BAD_VALUE; link(6, 7, 2) = BAD_VALUE; link(4, 4, 2) = BAD_VALUE");
        unchanged("promise 4: BAD_VALUE", BUSY, "witness(-1) = BAD_VALUE");
        unchanged("promise 6: BAD_VALUE", BUSY, "setPriority(6, 10) = BAD_VALUE",
                "setPriority(4, -1) = BAD_VALUE; setPriority(0, 10) = BAD_VALUE");
        unchanged("promise 7: BAD_VALUE", BUSY, "setPolicy(3) = BAD_VALUE; setPolicy(-1) = BAD_VALUE");
        unchanged("promise 8: BAD_VALUE", BUSY, "setGroupLimit(0) = BAD_VALUE",
                "setGroupLimit(10) = BAD_VALUE");
        unchanged("promise 10: BAD_VALUE", BUSY, "receive(0) = BAD_VALUE; receive(31) = BAD_VALUE");
        unchanged("promise 13: BAD_VALUE", BUSY, "giveBack(4, 4, -1) = BAD_VALUE",
                "giveBack(4, 4, 11) = BAD_VALUE");
        unchanged("promise 14: BAD_VALUE", BUSY, "extend(4, 4, 0) = BAD_VALUE",
                "extend(4, 4, 31) = BAD_VALUE");
        unchanged("promise 17: BAD_VALUE", BUSY, "tick(0) = BAD_VALUE; tick(31) = BAD_VALUE",
                "tick(-1) = BAD_VALUE; tick(MAX) = BAD_VALUE");
        unchanged("promises 22, 23: BAD_VALUE", BUSY, "itemsIn(7) = BAD_VALUE",
                "property(4, 8) = BAD_VALUE");
        unchanged("promises 30 to 32: BAD_VALUE", BUSY, "planLength(0, 0) = BAD_VALUE",
                "planStart(4, 7, 0) = BAD_VALUE; bestWorkers(3) = BAD_VALUE");
        unchanged("promise 36: BAD_VALUE", BUSY, "write(31) = BAD_VALUE; write(127) = BAD_VALUE");
        unchanged("promise 40: BAD_VALUE", BUSY, "save(-1) = BAD_VALUE; save(2) = BAD_VALUE");
        unchanged("promise 41: BAD_VALUE", BUSY, "restore(-1) = BAD_VALUE; restore(2) = BAD_VALUE");
    }

    private static void badItems() {
        unchanged("promise 3: BAD_ITEM", BUSY, "link(9, 6, 0) = BAD_ITEM; link(6, 9, 0) = BAD_ITEM",
                "link(9, 9, 1) = BAD_ITEM; link(-1, 6, 1) = BAD_ITEM; link(6, -1, 1) = BAD_ITEM");
        unchanged("promise 5: BAD_ITEM", BUSY, "unlink(9, 5) = BAD_ITEM; unlink(4, 9) = BAD_ITEM",
                "unlink(36, 5) = BAD_ITEM; unlink(4, 37) = BAD_ITEM");
        unchanged("promise 6: BAD_ITEM", BUSY, "setPriority(9, 5) = BAD_ITEM",
                "setPriority(-1, 5) = BAD_ITEM");
        unchanged("promises 12 to 14: BAD_ITEM", BUSY, "finish(9, 4) = BAD_ITEM",
                "giveBack(9, 4, 0) = BAD_ITEM; extend(9, 4, 1) = BAD_ITEM",
                "finish(36, 4) = BAD_ITEM; giveBack(36, 4, 0) = BAD_ITEM",
                "extend(36, 4, 1) = BAD_ITEM; finish(-1, 4) = BAD_ITEM");
        unchanged("promises 15, 16: BAD_ITEM", BUSY, "cancel(9) = BAD_ITEM; cancel(-1) = BAD_ITEM",
                "cancel(38) = BAD_ITEM; revive(9) = BAD_ITEM; revive(34) = BAD_ITEM");
        unchanged("promises 21 to 33: BAD_ITEM", BUSY, "state(9) = BAD_ITEM; rank(9) = BAD_ITEM",
                "property(9, 0) = BAD_ITEM; edge(9, 0) = BAD_ITEM; height(9) = BAD_ITEM",
                "before(9) = BAD_ITEM; wouldDoom(9) = BAD_ITEM; isSuperfluous(0, 9) = BAD_ITEM",
                "planStart(9, 1, 0) = BAD_ITEM; slack(9) = BAD_ITEM; receipt(9) = BAD_ITEM");
    }

    private static void notPossible() {
        unchanged("promise 3: NOT_POSSIBLE", BUSY, "link(6, 4, 0) = NOT_POSSIBLE",
                "link(0, 4, 1) = NOT_POSSIBLE; link(6, 0, 0) = NOT_POSSIBLE",
                "link(6, 1, 1) = NOT_POSSIBLE; link(6, 2, 0) = NOT_POSSIBLE",
                "link(2, 3, 1) = NOT_POSSIBLE; link(6, 3, 1) = NOT_POSSIBLE");
        unchanged("promise 5: NOT_POSSIBLE", BUSY, "unlink(6, 7) = NOT_POSSIBLE",
                "unlink(5, 4) = NOT_POSSIBLE; unlink(0, 4) = NOT_POSSIBLE",
                "unlink(2, 3) = NOT_POSSIBLE; unlink(5, 5) = NOT_POSSIBLE");
        unchanged("promise 6: NOT_POSSIBLE", BUSY, "setPriority(0, 1) = NOT_POSSIBLE",
                "setPriority(1, 1) = NOT_POSSIBLE; setPriority(2, 1) = NOT_POSSIBLE",
                "setPriority(3, 1) = NOT_POSSIBLE");
        unchanged("promise 15: NOT_POSSIBLE", BUSY, "cancel(0) = NOT_POSSIBLE",
                "cancel(1) = NOT_POSSIBLE; cancel(2) = NOT_POSSIBLE; cancel(3) = NOT_POSSIBLE");
        unchanged("promise 16: NOT_POSSIBLE", BUSY, "revive(0) = NOT_POSSIBLE",
                "revive(4) = NOT_POSSIBLE; revive(5) = NOT_POSSIBLE; revive(6) = NOT_POSSIBLE");
        unchanged("promises 28, 33: NOT_POSSIBLE", BUSY, "wouldDoom(0) = NOT_POSSIBLE",
                "wouldDoom(1) = NOT_POSSIBLE; wouldDoom(2) = NOT_POSSIBLE",
                "wouldDoom(3) = NOT_POSSIBLE; slack(0) = NOT_POSSIBLE; slack(1) = NOT_POSSIBLE",
                "slack(2) = NOT_POSSIBLE; slack(3) = NOT_POSSIBLE");
        unchanged("promise 39: NOT_POSSIBLE", BUSY + "write(53) = 11;", "load() = NOT_POSSIBLE");
        unchanged("promise 39: NOT_POSSIBLE in the second item",
                BUSY.replace("write(48) = 9;", "write(49) = 9;"), "load() = NOT_POSSIBLE");
        unchanged("promise 41: NOT_POSSIBLE", BUSY, "restore(1) = NOT_POSSIBLE");
    }

    /** The receipt of another item, an older one, the next one, and one of an item that has ended. */
    private static void stale() {
        unchanged("promise 12: STALE", BUSY, "finish(4, 3) = STALE; finish(4, 5) = STALE",
                "finish(4, 0) = STALE; finish(4, -7) = STALE; finish(6, -7) = STALE",
                "finish(0, 1) = STALE; finish(1, 2) = STALE; finish(5, 4) = STALE",
                "finish(4, MIN) = STALE; finish(4, MAX) = STALE");
        unchanged("promise 13: STALE", BUSY, "giveBack(4, 3, 0) = STALE; giveBack(4, 5, 0) = STALE",
                "giveBack(0, 1, 1) = STALE; giveBack(1, 2, 1) = STALE; giveBack(6, -7, 1) = STALE",
                "giveBack(5, 4, 10) = STALE; giveBack(4, MIN, 0) = STALE");
        unchanged("promise 14: STALE", BUSY, "extend(4, 3, 1) = STALE; extend(4, 5, 1) = STALE",
                "extend(0, 1, 1) = STALE; extend(1, 2, 1) = STALE; extend(6, -7, 1) = STALE",
                "extend(5, 4, 30) = STALE; extend(4, MAX, 1) = STALE");
    }

    private static void full() {
        unchanged("promise 2: FULL", FULL_QUEUE, "add(1, 1, 1, 0, 0) = FULL");
        unchanged("promise 35: NOT_POSSIBLE", FULL_QUEUE, "orders() = NOT_POSSIBLE");
        String fullText = Script.writing(longText());
        unchanged("promise 36: FULL", fullText, "write(48) = FULL; write(59) = FULL");
        unchanged("promise 36: BAD_VALUE", fullText, "write(31) = BAD_VALUE");
    }

    /** 200 characters: each of ten items with edges from all those described before, and three. */
    private static String longText() {
        StringBuilder text = new StringBuilder();
        for (int i = 0; i < 10; i++) {
            text.append("0w01");
            for (int k = 0; k < i; k++) {
                text.append("<0").append(k);
            }
            text.append(";");
        }
        return text.append("0w01;".repeat(3)).toString();
    }

    private static void cycle() {
        unchanged("promise 3: CYCLE", BUSY, "link(5, 4, 1) = CYCLE; link(5, 0, 0) = CYCLE",
                "link(6, 6, 0) = CYCLE; link(4, 4, 1) = CYCLE; link(3, 2, 0) = CYCLE");
        SCRIPT.run("promise 3: CYCLE remembers the path", BUSY, "witness(0) = 4; witness(1) = 5",
                "witness(2) = NONE; link(8, 1, 0) = CYCLE; witness(0) = 1; witness(1) = 8",
                "witness(2) = NONE; link(6, 6, 0) = CYCLE; witness(0) = 6; witness(1) = NONE");
    }

    /** NONE is no error, but these calls change nothing either. */
    private static void noSuchThing() {
        unchanged("promises 4, 11, 23, 24, 29, 31: NONE", BUSY, "witness(2) = NONE",
                "receipt(6) = NONE; property(4, 6) = NONE; property(6, 7) = NONE",
                "edge(6, 7) = NONE; isSuperfluous(6, 7) = NONE; planStart(0, 1, 0) = NONE",
                "fault() = NONE");
        unchanged("promise 10: NONE", "add(1, 1, 1, 0, 1) = 0; add(1, 1, 1, 0, 0) = 1;"
                + "setGroupLimit(1) = 9; receive(9) = 1;", "receive(9) = NONE");
    }
}
