/** Counts answers that are not as due, and prints them. */
final class Checks {
    private int wrong;
    private int all;

    void due(String what, long got, long want) {
        all++;
        if (got != want) {
            wrong++;
            if (wrong <= 50) {
                System.out.println(what + ": answered " + got + ", due is " + want);
            }
        }
    }

    void isTrue(String what, boolean holds) {
        due(what, holds ? 1 : 0, 1);
    }

    void end(String name) {
        System.out.println(name + ": " + all + " checks, " + wrong + " wrong");
        if (wrong != 0) {
            System.exit(1);
        }
    }

    /** Types a text into an object; the letters are those of the text. */
    static void type(SneakPaths x, String text) {
        for (int i = 0; i < text.length(); i++) {
            x.type(text.charAt(i));
        }
    }

    /** A new object that was told a net. */
    static SneakPaths told(String text) {
        SneakPaths x = new SneakPaths();
        type(x, text);
        int items = x.net();
        if (items < 0) {
            throw new IllegalArgumentException(text + " has a fault: " + items);
        }
        return x;
    }
}
