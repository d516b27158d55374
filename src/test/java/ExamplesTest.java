/** The five examples of the document, as they stand there, and the shared constants. */
public final class ExamplesTest {
    public static void main(String[] args) {
        Script script = new Script();
        script.run("example 1",
                "add(5, 3, 2, 0, 0) = 0; add(9, 2, 1, 0, 0) = 1; add(1, 4, 3, 1, 2) = 2",
                "link(0, 1, 0) = 1; link(1, 2, 1) = 2; link(2, 0, 0) = -5; witness(0) = 0",
                "witness(2) = 2; receive(5) = 0; receipt(0) = 1; finish(0, 1) = 1",
                "receive(2) = 1; tick(2) = 1; state(1) = 6; state(2) = 1; property(2, 6) = 4");
        script.run("example 2",
                "add(1, 1, 1, 0, 0) = 0; add(1, 1, 1, 0, 0) = 1; add(1, 1, 1, 0, 0) = 2",
                "link(0, 1, 0) = 1; link(1, 2, 0) = 2; wouldDoom(0) = 6; cancel(0) = 2",
                "itemsIn(5) = 6; revive(2) = 5; revive(0) = 1; revive(1) = 0; state(2) = 5",
                "revive(2) = 0; state(2) = 0; orders() = 1; width() = 1");
        script.run("example 3",
                "receive(1) = -7; receive(0) = -2; add(0, 5, 3, 0, 0) = 0; add(3, 2, 3, 0, 0) = 1",
                "add(3, 9, 3, 0, 0) = 2; link(1, 0, 0) = 1; rank(1) = 300; setPolicy(1) = 0",
                "rank(1) = 307; planLength(1, 0) = 16; planLength(2, 1) = 9",
                "planStart(0, 2, 1) = 2; bestWorkers(0) = 2; slack(1) = 2; height(1) = 7",
                "slack(2) = 0");
        script.run("example 4",
                "add(1, 1, 3, 2, 0) = 0; add(1, 1, 3, 2, 0) = 1; setGroupLimit(1) = 9",
                "receive(9) = 0; receive(9) = -7; giveBack(0, 1, 3) = 1; giveBack(0, 1, 3) = -6",
                "receive(9) = 1; receipt(1) = 2; tick(3) = 0; extend(1, 2, 30) = 9",
                "finish(1, 2) = 0; receive(4) = 0; giveBack(0, 3, 3) = 1; property(0, 6) = 9",
                "cancel(1) = -4");
        script.run("example 5",
                "write(53) = 1; write(119) = 2; write(51) = 3; write(59) = 4; write(50) = 5",
                "write(119) = 6; write(50) = 7; write(48) = 8; write(60) = 9; write(48) = 10",
                "write(59) = 11; fault() = -7; load() = 2; edge(0, 1) = 0",
                "isSuperfluous(0, 1) = 0; before(1) = 1");
        script.end();
    }
}
