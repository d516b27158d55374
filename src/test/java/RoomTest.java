import com.sun.management.ThreadMXBean;
import java.lang.management.ManagementFactory;
import java.util.function.ToLongFunction;

/**
 * All calls of one run live in one room: an object and 512 of its dearest calls may not make more
 * than a small part of it. Each call is tried on a full queue, after a first time.
 */
public final class RoomTest {
    private static final ThreadMXBean THREADS =
            (ThreadMXBean) ManagementFactory.getThreadMXBean();
    private static final int CALLS = 512;
    /** A long element takes 8 bytes: far less than the room's 7.3 million elements. */
    private static final long ROOM_OF_OBJECT = 80_000;
    private static final long ROOM_OF_CALLS = 10_000;

    private static long sum = 0;
    private static int wrong = 0;

    public static void main(String[] args) {
        fullQueue();
        long before = allocated();
        DependencyQueue unused = new DependencyQueue();
        report("a new object", allocated() - before, ROOM_OF_OBJECT);
        sum += unused.items();
        measure("add", queue -> queue.add(1, 1, 1, 0, 0) + queue.items());
        measure("link", queue -> queue.link(0, 19, 0) + queue.link(19, 0, 0));
        measure("unlink and link", queue -> queue.unlink(0, 1) + queue.link(0, 1, 1));
        measure("receive and giveBack", queue -> queue.giveBack(queue.receive(3), 1, 2));
        measure("tick", queue -> queue.tick(30));
        measure("cancel and revive", queue -> queue.cancel(0) + queue.revive(0));
        measure("rank", queue -> queue.rank(0) + queue.height(1) + queue.before(19));
        measure("wouldDoom", queue -> queue.wouldDoom(0) + queue.isSuperfluous(0, 1));
        measure("plans", queue -> queue.bestWorkers(2) + queue.planStart(19, 3, 1));
        measure("slack and width", queue -> queue.slack(3) + queue.width());
        measure("orders", queue -> queue.orders());
        measure("text", queue -> queue.write(48) + queue.fault());
        measure("load", queue -> queue.load() + queue.clear() + queue.restore(0));
        measure("save and restore", queue -> queue.save(0) + queue.save(1) + queue.restore(1));
        measureOrdersOfTwelve();
        System.out.println("all answers together: " + sum);
        System.exit(wrong == 0 ? 0 : 1);
    }

    private static long allocated() {
        return THREADS.getThreadAllocatedBytes(Thread.currentThread().getId());
    }

    private static DependencyQueue fullQueue() {
        DependencyQueue queue = new DependencyQueue();
        for (int i = 0; i < 20; i++) {
            queue.add(i % 10, i + 1, 5, i % 4, i);
            for (int k = i - 3; k < i; k++) {
                queue.link(k, i, k % 2);
            }
        }
        queue.save(0);
        queue.save(1);
        return queue;
    }

    private static void measure(String name, ToLongFunction<DependencyQueue> call) {
        measure(name, fullQueue(), call);
    }

    private static void measure(String name, DependencyQueue queue,
            ToLongFunction<DependencyQueue> call) {
        sum += call.applyAsLong(queue);
        long before = allocated();
        for (int i = 0; i < CALLS; i++) {
            sum += call.applyAsLong(queue);
        }
        report(name, allocated() - before, ROOM_OF_CALLS);
    }

    private static void measureOrdersOfTwelve() {
        DependencyQueue queue = new DependencyQueue();
        for (int i = 0; i < 12; i++) {
            queue.add(1, 1, 1, 0, 0);
        }
        measure("orders of twelve", queue, one -> one.orders());
    }

    private static void report(String name, long bytes, long most) {
        System.out.println(name + ": " + bytes + " bytes");
        if (bytes > most) {
            wrong++;
            System.out.println("that is too much for " + name);
        }
    }
}
