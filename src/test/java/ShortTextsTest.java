/** Every short text, not just those that one thinks of: how many items, or where its fault is. */
public final class ShortTextsTest {
    /** One letter of each sort that the document tells apart. */
    private static final String LETTERS = "nowl; 01239x";
    private static final int LONGEST = 5;
    private static final int LONGEST_END = 3;
    /** What makes another token a fault: nodes, loads or contacts that are told already. */
    private static final String[] BEGINNINGS = {
        "n2;l1;", "n3;w0 1;", "n7;l1;l2;l3;", "w0 1;".repeat(9), "o0 ", "c1 2 ", "d0", "n ", "l1;l", "o0 1 1",
    };

    private final Checks checks = new Checks();

    public static void main(String[] args) {
        ShortTextsTest t = new ShortTextsTest();
        t.allBehind("", LONGEST);
        for (String beginning : BEGINNINGS) {
            t.allBehind(beginning, LONGEST_END);
        }
        t.checks.end("ShortTextsTest");
    }

    private void allBehind(String text, int more) {
        same(text);
        for (int i = 0; i < LETTERS.length() && more > 0; i++) {
            allBehind(text + LETTERS.charAt(i), more - 1);
        }
    }

    private void same(String text) {
        SneakPaths x = new SneakPaths();
        Oracle y = new Oracle();
        for (int i = 0; i < text.length(); i++) {
            x.type(text.charAt(i));
            y.type(text.charAt(i));
        }
        checks.due("net of '" + text + "'", x.net(), y.net());
        for (int what : new int[] {0, 1, 2, 6}) {
            checks.due("count(" + what + ") behind '" + text + "'", x.count(what), y.count(what));
        }
    }
}
