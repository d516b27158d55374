/**
 * Promises 38 and 39 for every text that goes on, by up to six characters, behind some beginnings:
 * the fault, and what load() answers, are those of the model.
 */
public final class AllTextsTest {
    /** Every sign of the grammar, digits on both sides of each bound, and one that stands nowhere. */
    private static final String SIGNS = "0129w;<!~";

    private static final String[] BEGINNINGS = {"", "1w1;", "1w1;1w1", "1w1;1w1;1w2<1"};
    /** Behind these, shorter ends are enough. */
    private static final String[] LONG_BEGINNINGS = {
        "1w1;".repeat(18), "1w1;".repeat(19), "1w1;".repeat(20), "1w1;".repeat(19) + "1w1",
        "1w1;".repeat(19) + "1w1<18", "1w1;".repeat(9) + "1w1", "1w1;".repeat(10) + "1w1",
    };

    private DependencyQueue queue = new DependencyQueue();
    private int calls = 0;
    private int texts = 0;
    private int good = 0;
    private int wrong = 0;

    public static void main(String[] args) {
        AllTextsTest test = new AllTextsTest();
        for (String beginning : BEGINNINGS) {
            test.tryAll(beginning, 5);
        }
        test.tryAll("", 6);
        for (String beginning : LONG_BEGINNINGS) {
            test.tryAll(beginning, 3);
        }
        test.everyCodeEverywhere("1w12;9w20<0;0w01!01<0;");
        System.out.println(test.texts + " texts, " + test.good + " without a fault, " + test.wrong
                + " answers wrong");
        System.exit(test.wrong == 0 && test.good > 0 ? 0 : 1);
    }

    private void tryAll(String text, int more) {
        tryText(text);
        for (int i = 0; more > 0 && i < SIGNS.length(); i++) {
            tryAll(text + SIGNS.charAt(i), more - 1);
        }
    }

    /** In the place of each character, and between any two. */
    private void everyCodeEverywhere(String text) {
        for (int code = 32; code <= 126; code++) {
            for (int i = 0; i < text.length(); i++) {
                tryText(text.substring(0, i) + (char) code + text.substring(i));
                tryText(text.substring(0, i) + (char) code + text.substring(i + 1));
            }
        }
    }

    private void tryText(String text) {
        if (calls + text.length() + 3 > Script.CALLS_OF_AN_OBJECT) {
            queue = new DependencyQueue();
            calls = 0;
        }
        calls += text.length() + 3;
        Model model = new Model();
        queue.wipe();
        for (int i = 0; i < text.length(); i++) {
            queue.write(text.charAt(i));
            model.write(text.charAt(i));
        }
        texts++;
        expect("promise 38: fault() of " + text, queue.fault(), model.fault());
        int due = model.load();
        expect("promise 39: load() of " + text, queue.load(), due);
        good += due >= 0 ? 1 : 0;
    }

    private void expect(String what, int got, int due) {
        if (got != due) {
            wrong++;
            if (wrong <= 20) {
                System.out.println(what + " answered " + got + ", due is " + due);
            }
        }
    }
}
