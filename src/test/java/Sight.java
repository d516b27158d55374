import java.util.ArrayList;
import java.util.List;
import java.util.function.Consumer;

/**
 * All that can be seen of an object after some calls. What can be seen only by changing it (the
 * text, the slots, the settings, the next receipts) is looked at on an object of its own, so each
 * part of the sight makes the calls anew.
 */
final class Sight {
    private static final int MOST_ITEMS = 20;

    private final List<String> seen = new ArrayList<>();
    private final List<String> calls;
    private DependencyQueue queue;
    private int made;

    /** The calls are written without answers. */
    private Sight(List<String> calls) {
        this.calls = calls;
    }

    static List<String> of(List<String> calls) {
        Sight sight = new Sight(calls);
        sight.part("counts", Sight::lookAtCounts);
        sight.part("items", Sight::lookAtItems);
        sight.part("edges", Sight::lookAtEdges);
        sight.part("plans", Sight::lookAtPlans);
        sight.part("settings", Sight::lookAtSettings);
        sight.part("work", Sight::lookAtWork);
        sight.part("text", one -> one.look("wipe()"));
        sight.part("text and more", Sight::lookAtMoreText);
        sight.part("text loaded", Sight::lookAtLoaded);
        for (int slot = 0; slot < 2; slot++) {
            String restore = "restore(" + slot + ")";
            sight.part(restore, one -> one.lookAfter(restore, Sight::lookAtCounts));
            sight.part(restore + " items", one -> one.lookAfter(restore, Sight::lookAtItems));
            sight.part(restore + " settings", one -> one.lookAfter(restore, Sight::lookAtSettings));
            sight.part(restore + " work", one -> one.lookAfter(restore, Sight::lookAtWork));
        }
        return sight.seen;
    }

    /** Only what link() changes when it reports CYCLE. */
    static List<String> ofWitness(List<String> calls) {
        Sight sight = new Sight(calls);
        sight.part("witness", one -> {
            for (int k = 0; k <= MOST_ITEMS; k++) {
                one.look("witness(" + k + ")");
            }
        });
        return sight.seen;
    }

    private void part(String name, Consumer<Sight> looks) {
        queue = new DependencyQueue();
        made = 0;
        for (String call : calls) {
            Script.make(queue, call);
            made++;
        }
        seen.add(name);
        looks.accept(this);
        if (made > Script.CALLS_OF_AN_OBJECT) {
            throw new IllegalStateException(name + ": " + made + " calls on one object");
        }
    }

    private long look(String call) {
        made++;
        long answer = Script.make(queue, call);
        seen.add(call + " = " + answer);
        return answer;
    }

    private void lookAfter(String call, Consumer<Sight> looks) {
        look(call);
        looks.accept(this);
    }

    private void lookAtCounts() {
        for (String call : Script.callsOf("items(); edges(); time(); fault(); width(); orders()")) {
            look(call);
        }
        for (int state = 0; state <= 6; state++) {
            look("itemsIn(" + state + ")");
        }
    }

    private void lookAtItems() {
        long count = look("items()");
        for (int i = 0; i < count; i++) {
            look("state(" + i + ")");
            look("receipt(" + i + ")");
            for (int what = 0; what <= 7; what++) {
                look("property(" + i + ", " + what + ")");
            }
            look("rank(" + i + ")");
            look("height(" + i + ")");
            look("before(" + i + ")");
            look("wouldDoom(" + i + ")");
            look("slack(" + i + ")");
        }
    }

    private void lookAtEdges() {
        long count = look("items()");
        for (int i = 0; i < count; i++) {
            for (int k = 0; k < count; k++) {
                if (look("edge(" + i + ", " + k + ")") >= 0) {
                    look("isSuperfluous(" + i + ", " + k + ")");
                }
            }
        }
    }

    private void lookAtPlans() {
        long count = look("items()");
        for (int policy = 0; policy <= 2; policy++) {
            look("bestWorkers(" + policy + ")");
            for (int workers = 1; workers <= 6; workers++) {
                look("planLength(" + workers + ", " + policy + ")");
            }
            for (int i = 0; i < count; i++) {
                look("planStart(" + i + ", 2, " + policy + ")");
            }
        }
    }

    /** By policy 2 a rank shows since when the item has been ready. */
    private void lookAtSettings() {
        look("setGroupLimit(9)");
        look("setPolicy(2)");
        long count = look("items()");
        for (int i = 0; i < count; i++) {
            look("rank(" + i + ")");
        }
    }

    /** What is received next, and with which receipts. */
    private void lookAtWork() {
        for (int turn = 0; turn < 24; turn++) {
            long item = look("receive(2)");
            for (int i = 0; i < MOST_ITEMS / 4 && item >= 0; i++) {
                look("receipt(" + item + ")");
                item = look("receive(2)");
            }
            look("tick(1)");
        }
    }

    private void lookAtMoreText() {
        look("write(59)");
        look("fault()");
        look("wipe()");
    }

    private void lookAtLoaded() {
        look("load()");
        lookAtCounts();
        lookAtItems();
    }
}
