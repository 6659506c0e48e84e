import java.util.Random;

/** Random runs of up to 512 calls (fixed seeds), each answer compared with the oracle's. */
public final class OracleTest {
    private static final int RUNS = 1200;
    /** Nothing is promised behind the 512th call: a text and two looks at all must still fit. */
    private static final int CALLS = 512 - 190;

    private final Checks checks;
    private final Random random;
    private final int run;
    private final SneakPaths x = new SneakPaths();
    private final Oracle y = new Oracle();
    private int calls;

    private OracleTest(Checks checks, int run) {
        this.checks = checks;
        this.run = run;
        this.random = new Random(run);
    }

    public static void main(String[] args) {
        Checks checks = new Checks();
        for (int run = 0; run < RUNS; run++) {
            new OracleTest(checks, run).play();
        }
        checks.end("OracleTest");
    }

    private void play() {
        while (calls < CALLS) {
            if (calls == 0 || random.nextInt(60) == 0) {
                tell(random.nextInt(4) == 0 ? spoilt(text()) : text());
            } else {
                one(random.nextInt(21));
            }
            if (random.nextInt(40) == 0) {
                whole();
            }
        }
        whole();
    }

    private void same(String call, int got, int want) {
        calls++;
        checks.due("run " + run + ", call " + calls + ", " + call, got, want);
    }

    private void tell(String text) {
        if (random.nextInt(3) != 0) {
            same("clear()", x.clear(), y.clear());
        }
        for (int i = 0; i < text.length(); i++) {
            int letter = text.charAt(i);
            same("type(" + letter + ")", x.type(letter), y.type(letter));
        }
        same("net()", x.net(), y.net());
    }

    private String blank() {
        return " ".repeat(random.nextInt(12) == 0 ? 1 + random.nextInt(2) : 0);
    }

    private String text() {
        StringBuilder s = new StringBuilder();
        int nodes = 3;
        if (random.nextInt(5) != 0) {
            nodes = 2 + random.nextInt(6);
            s.append(blank()).append('n').append(blank()).append(nodes).append(";");
        }
        int contacts = random.nextInt(4) == 0 ? random.nextInt(10) : 6 + random.nextInt(4);
        int loads = Math.min(nodes - 1, 1 + random.nextInt(3));
        boolean early = random.nextBoolean();
        if (early) {
            loads(s, nodes, loads);
        }
        for (int i = 0; i < contacts; i++) {
            contact(s, nodes);
        }
        if (!early) {
            loads(s, nodes, loads);
        }
        return s.toString();
    }

    private void contact(StringBuilder s, int nodes) {
        int u = random.nextInt(nodes);
        int v = (u + 1 + random.nextInt(nodes - 1)) % nodes;
        int kind = random.nextInt(4);
        s.append("ocwd".charAt(kind)).append(blank()).append(u).append(' ').append(blank()).append(v);
        if (kind < 2) {
            s.append(' ').append(random.nextInt(4));
        }
        s.append(blank()).append(';').append(blank());
    }

    private void loads(StringBuilder s, int nodes, int loads) {
        int start = random.nextInt(nodes - 1);
        for (int i = 0; i < loads; i++) {
            s.append('l').append(blank()).append(1 + (start + i) % (nodes - 1)).append(';');
        }
    }

    private String spoilt(String text) {
        StringBuilder s = new StringBuilder(text);
        String letters = "nocwdl; 0123456789xN\t\u00e9";
        for (int i = 1 + random.nextInt(2); i > 0 && s.length() > 0; i--) {
            int at = random.nextInt(s.length());
            char letter = letters.charAt(random.nextInt(letters.length()));
            switch (random.nextInt(4)) {
                case 0 -> s.setCharAt(at, letter);
                case 1 -> s.insert(at, letter);
                case 2 -> s.deleteCharAt(at);
                default -> s.setLength(at);
            }
        }
        return s.toString();
    }

    /** Mostly from 0 to most; now and then just beyond, or far. */
    private int number(int most) {
        return switch (random.nextInt(40)) {
            case 0 -> -1;
            case 1 -> most + 1;
            case 2 -> random.nextInt();
            case 3 -> random.nextBoolean() ? Integer.MIN_VALUE : Integer.MAX_VALUE;
            default -> random.nextInt(most + 1);
        };
    }

    private int load() {
        return number(Math.max(0, y.count(2) - 1));
    }

    private int contact() {
        return number(Math.max(0, y.count(1) - 1));
    }

    private int states(int l) {
        int fed = y.load(l, 1);
        return switch (random.nextInt(6)) {
            case 0 -> number(65535);
            case 1 -> 0;
            case 2 -> fed & random.nextInt(65536);
            case 3 -> fed | random.nextInt(65536);
            default -> fed & new int[] {0xAAAA, 0x5555, 0xCCCC, 0x3333, 0xF0F0, 0x0F0F, 0xFF00, 0x00FF}[random.nextInt(8)];
        };
    }

    private void one(int which) {
        int a = load();
        int c = contact();
        int s = number(15);
        int t = number(15);
        int w = number(1);
        int k = random.nextInt(8) == 0 ? number(4) : number(1);
        switch (which) {
            case 0 -> same("type(" + t + ")", x.type(t), y.type(t));
            case 1 -> same("wishes", x.wishes(a, s), y.wishes(a, s));
            case 2 -> {
                int states = states(a);
                same("wishes(" + a + ", " + states + ")", x.wishes(a, states), y.wishes(a, states));
            }
            case 3, 4 -> {
                int kind = number(4);
                int by = random.nextInt(6) == 0 || kind < 2 ? number(3) : 0;
                same("cures(" + c + ", " + kind + ", " + by + ")", x.cures(c, kind, by), y.cures(c, kind, by));
            }
            case 5 -> {
                int how = number(2);
                same("sticks(" + c + ", " + how + ")", x.sticks(c, how), y.sticks(c, how));
            }
            case 6 -> same("undo()", x.undo(), y.undo());
            case 7 -> {
                int n = number(12);
                int what = number(2);
                same("path(" + a + ", " + n + ", " + what + ")", x.path(a, n, what), y.path(a, n, what));
            }
            case 8, 9 -> same("shortest(" + a + ", " + s + ", " + (k - 1) + ")", x.shortest(a, s, k - 1), y.shortest(a, s, k - 1));
            case 10 -> same("parting(" + a + ", " + s + ")", x.parting(a, s), y.parting(a, s));
            case 11 -> same("enough(" + w + ")", x.enough(w), y.enough(w));
            case 12 -> same("flash(" + a + ", " + s + ", " + t + ")", x.flash(a, s, t), y.flash(a, s, t));
            case 13 -> {
                int tenths = number(10);
                same("odds(" + tenths + ", " + a + ", " + s + ", " + w + ")", x.odds(tenths, a, s, w), y.odds(tenths, a, s, w));
            }
            case 14 -> same("sees(" + a + ", " + s + ", " + w + ")", x.sees(a, s, w), y.sees(a, s, w));
            case 15 -> {
                if (random.nextInt(4) == 0) {
                    same("forget()", x.forget(), y.forget());
                }
            }
            case 16 -> same("unseen(" + (w + 1) + ")", x.unseen(w + 1), y.unseen(w + 1));
            case 17 -> same("keep(" + w + ")", x.keep(w), y.keep(w));
            case 18 -> same("back(" + w + ")", x.back(w), y.back(w));
            case 19 -> {
                int what = number(6);
                same("contact(" + c + ", " + what + ")", x.contact(c, what), y.contact(c, what));
                what = number(5);
                same("load(" + a + ", " + what + ")", x.load(a, what), y.load(a, what));
            }
            default -> {
                int what = number(7);
                same("count(" + what + ")", x.count(what), y.count(what));
            }
        }
    }

    /** All that can be asked for without a change, in part. */
    private void whole() {
        for (int what = 0; what <= 7; what++) {
            same("count(" + what + ")", x.count(what), y.count(what));
        }
        for (int c = 0; c < 9; c++) {
            int what = 4 + random.nextInt(3);
            same("contact(" + c + ", " + what + ")", x.contact(c, what), y.contact(c, what));
        }
        for (int l = 0; l < 3; l++) {
            for (int what = 0; what < 6; what++) {
                same("load(" + l + ", " + what + ")", x.load(l, what), y.load(l, what));
            }
        }
        same("enough(0)", x.enough(0), y.enough(0));
        same("unseen(1)", x.unseen(1), y.unseen(1));
        same("unseen(2)", x.unseen(2), y.unseen(2));
    }
}
