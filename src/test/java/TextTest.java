/** Promises 36 to 39: the text. */
public final class TextTest {
    /** Texts without a fault. */
    private static final String[] GOOD = {
        "", "5w3;", "0w1;", "9w20;", "5w05;", "5w01;", "5w3;5w3<0;", "5w3;5w3!0;", "5w3;5w3<00;",
        "5w3;5w3;5w3<1!0;", "5w3;5w3;5w3<01<00;", "0w1;0w1;0w1;0w1;0w1;0w1;0w1;0w1;0w1;0w1;0w1<9;",
    };

    /** Texts with the index of their fault. */
    private static final String[] BAD = {
        // They end within an item.
        "5", "1", "5w", "2", "5w3", "3", "5w12", "4", "5w3<", "4", "5w3;5", "5", "5w3;5w3!", "8",
        "5w3;5w3<0", "9", "5w3;5w3<00", "10", "5w01", "4",
        // A character that cannot stand there.
        "w", "0", ";", "0", " ", "0", " 5w3;", "0", "<", "0", "~", "0", "55w3;", "1", "5W3;", "1",
        "5;", "1", "5w;", "2", "5w<", "2", "5w 3", "2", "5ww", "2", "5w3 ;", "3", "5w3w", "3",
        "5w3,", "3", "5w3>0", "3", "5w123", "4", "5w012;", "4", "5w12w", "4", "5w3<;", "4",
        "5w3<<", "4", "5w3;;", "4", "5w3; ", "4", "5w3;x", "4", "5w3;5w3<<0;", "8",
        "5w3;5w3<-1;", "8", "5w3;5w3<0 ;", "9", "5w3;5w3<000;", "10", "5w3;5w3<0w", "9",
        // A number that is not allowed.
        "5w0;", "2", "5w0", "2", "5w00;", "2", "5w00", "2", "5w21;", "2", "5w21", "2", "5w213", "2",
        "5w99;", "2", "5w0x", "2", "5w3<0;", "4", "5w3!0", "4", "5w3<9", "4", "5w3;5w3<1;", "8",
        "5w3;5w3<10;", "8", "5w3;5w3<01;", "8", "5w3;5w3<0!0;", "10", "5w3;5w3<0<00;", "10",
        "5w3;5w3!00<0", "11", "5w3;5w3<0!1;", "10", "5w3;5w3<99x", "8", "5w3;5w21<9", "6",
        "0w1;0w1;0w1;0w1;0w1;0w1;0w1;0w1;0w1;0w1;0w1<10;", "44",
    };

    private static final Script SCRIPT = new Script();

    public static void main(String[] args) {
        write();
        faults();
        manyItems();
        load();
        longestText();
        SCRIPT.end();
    }

    private static void write() {
        SCRIPT.run("promises 36 and 37",
                "wipe() = 0; write(31) = -2; write(127) = -2; write(-1) = -2",
                "write(32) = 1; write(126) = 2; write(127) = -2; wipe() = 2; wipe() = 0",
                "write(53) = 1; wipe() = 1; fault() = -7");
        StringBuilder full = new StringBuilder();
        for (int i = 1; i <= 200; i++) {
            full.append("write(48) = ").append(i).append(";");
        }
        SCRIPT.run("promise 36: full", full.toString(), "write(48) = -3; write(31) = -2",
                "write(127) = -2; fault() = 1; wipe() = 200; write(48) = 1");
    }

    private static void faults() {
        for (String text : GOOD) {
            SCRIPT.run("promise 38: the text " + text,
                    "text(" + text.replace(';', ',') + "); fault() = -7",
                    "wipe() = " + text.length());
        }
        for (int i = 0; i < BAD.length; i += 2) {
            // In a script a comma stands for a semicolon, so this comma is put by its number.
            SCRIPT.run("promise 38: the text " + BAD[i], BAD[i].equals("5w3,")
                    ? "write(53) = 1; write(119) = 2; write(51) = 3; write(44) = 4"
                    : "text(" + BAD[i].replace(';', ',') + ")",
                    "fault() = " + BAD[i + 1], "load() = -4; fault() = " + BAD[i + 1]);
        }
    }

    private static void manyItems() {
        String twenty = "0w1,".repeat(20);
        SCRIPT.run("promises 38, 39: twenty items",
                "text(" + twenty + "); fault() = -7; load() = 20");
        SCRIPT.run("promises 38, 39: a 21st item",
                "text(" + twenty + "0w1,); fault() = 80; load() = -4",
                "text(" + twenty + "x); fault() = 80; text(" + twenty + "0); fault() = 80");
        String eleven = "0w1,".repeat(11);
        SCRIPT.run("promise 38: two digits",
                "text(" + eleven + "0w1<10!09<1!00,); fault() = -7; load() = 12",
                "edge(10, 11) = 0; edge(9, 11) = 1; edge(1, 11) = 0; edge(0, 11) = 1; edges() = 4",
                "text(" + eleven + "0w1<11,); fault() = 48; text(" + eleven + "0w1<100,)",
                "fault() = 50; text(" + eleven + "0w1<10<1<10,); fault() = 53; items() = 12");
    }

    private static void load() {
        SCRIPT.run("promise 39", "setPolicy(2) = 0; setGroupLimit(4) = 9; add(9, 9, 1, 3, 5) = 0",
                "add(8, 1, 1, 1, 1) = 1; link(0, 1, 1) = 1; tick(5) = 0; receive(9) = 0; save(1) = 2",
                "text(5w3,2w20<0,7w01!1<0,); load() = 3; items() = 3; edges() = 3; time() = 5",
                "state(0) = 1; state(1) = 0; state(2) = 0; property(0, 0) = 5; property(0, 1) = 3",
                "property(0, 2) = 3; property(0, 3) = 0; property(0, 4) = 0; property(0, 5) = 0",
                "property(0, 6) = 5; property(0, 7) = -7; property(1, 1) = 20; property(2, 0) = 7",
                "property(2, 1) = 1; property(2, 2) = 3; edge(0, 1) = 0; edge(1, 2) = 1",
                "edge(0, 2) = 0; edge(1, 0) = -7; receipt(0) = -7; setPolicy(2) = 2",
                "setGroupLimit(4) = 4; tick(2) = 0; rank(0) = 520; receive(3) = 0; receipt(0) = 2",
                "fault() = -7; load() = 3; state(0) = 1; property(0, 6) = 7; property(0, 5) = 0",
                "finish(0, 2) = -6; wipe() = 20; load() = 0; items() = 0; edges() = 0",
                "restore(1) = 2; state(0) = 2; finish(0, 1) = 1");
        SCRIPT.run("promise 39: a fault changes nothing", "add(9, 9, 1, 3, 0) = 0",
                "text(5w3,5w3<1,); load() = -4; items() = 1; property(0, 0) = 9; state(0) = 1",
                "edges() = 0; wipe() = 10");
        SCRIPT.run("promise 39: what was loaded can be changed", "text(5w3,5w4<0,); load() = 2",
                "add(1, 1, 1, 0, 0) = 2; link(1, 2, 0) = 2; link(0, 1, 1) = 2; cancel(0) = 0",
                "state(1) = 1; fault() = -7; load() = 2; edge(0, 1) = 0; state(0) = 1",
                "add(1, 1, 1, 0, 0) = 2; before(2) = 0; state(2) = 1");
    }

    /** 200 characters: 4 + 6 + 17 * 10 + 20. */
    private static void longestText() {
        String text = "0w1," + "0w1<0," + "0w1<00<01,".repeat(17) + "0w01<00<01<02<03!04,";
        SCRIPT.run("promises 36 to 39: 200 characters",
                "text(" + text + "); fault() = -7; load() = 20; edges() = 40",
                "write(48) = -3; edge(4, 19) = 1; edge(3, 19) = 0; before(19) = 31; wipe() = 200");
    }
}
