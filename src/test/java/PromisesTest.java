/** Each promise of the document, with answers worked out by hand. */
public final class PromisesTest {
    private static final int BAD = SneakPaths.BAD, STATE = SneakPaths.STATE, FULL = SneakPaths.FULL, NONE = SneakPaths.NONE;
    private static final int ALL = 65535;

    /** Two feeds (switches 0, 1), two loads (switches 2, 3), and a wire between that sneaks. */
    private static final String BRIDGE = "n5;o0 1 0;o0 2 1;o1 3 2;o2 4 3;w1 2;l3;l4;";
    /** Fed where switch 0 is 1 and switch 1 is 0. */
    private static final String CHAIN = "o0 1 0;c1 2 1;l2;";

    private static final int S0 = 0xAAAA, S1 = 0xCCCC, S2 = 0xF0F0, S3 = 0xFF00;

    private final Checks checks = new Checks();

    public static void main(String[] args) {
        PromisesTest t = new PromisesTest();
        t.newObject();
        t.type();
        t.clear();
        t.net();
        t.netFaults();
        t.netAnew();
        t.contact();
        t.load();
        t.shutAndWays();
        t.wishes();
        t.cures();
        t.sticks();
        t.undo();
        t.path();
        t.shortest();
        t.parting();
        t.enough();
        t.flash();
        t.odds();
        t.sees();
        t.forget();
        t.unseen();
        t.images();
        t.count();
        t.wildArguments();
        t.checks.end("PromisesTest");
    }

    private void due(String what, long got, long want) {
        checks.due(what, got, want);
    }

    // 1
    private void newObject() {
        SneakPaths x = new SneakPaths();
        int[] counts = {3, 0, 0, 0, 0, 0, 0, 0};
        for (int i = 0; i < counts.length; i++) {
            due("new: count(" + i + ")", x.count(i), counts[i]);
        }
        due("new: contact", x.contact(0, 0), BAD);
        due("new: load", x.load(0, 0), BAD);
        due("new: undo", x.undo(), STATE);
        due("new: back", x.back(0), STATE);
        due("new: enough", x.enough(0), 0);
        due("new: the first enough", x.enough(1), NONE);
        due("new: keep", x.keep(1), 0);
        due("new: back to it", x.back(1), 0);
    }

    // 2
    private void type() {
        SneakPaths x = new SneakPaths();
        due("type(-1)", x.type(-1), BAD);
        due("type(256)", x.type(256), BAD);
        due("type(0)", x.type(0), 1);
        due("type(255)", x.type(255), 2);
        for (int i = 3; i <= 100; i++) {
            due("letter " + i, x.type(' '), i);
        }
        due("a letter too many", x.type(' '), FULL);
        due("BAD comes ahead of FULL", x.type(256), BAD);
        due("letters", x.count(6), 100);
        due("the first letter is a fault", x.net(), -10);
    }

    // 3
    private void clear() {
        SneakPaths x = new SneakPaths();
        due("clear, empty", x.clear(), 0);
        Checks.type(x, "n2;");
        due("clear", x.clear(), 3);
        due("letters behind clear", x.count(6), 0);
        due("net behind clear", x.net(), 0);
        Checks.type(x, "n2;");
        x.net();
        due("net has emptied the text", x.clear(), 0);
        due("clear does not change the net", x.count(0), 2);
    }

    // 4
    private void net() {
        netDue("", 0);
        netDue("    ", 0);
        netDue("n7;", 1);
        netDue(" n 2 ; w 0 1 ; l 1 ; ", 3);
        netDue("l1;l2;w0 1;", 3);
        netDue("n4;l1;l2;l3;", 4);
        netDue("w0 1;w0 1;w0 1;w0 1;w0 1;w0 1;w0 1;w0 1;w0 1;", 9);
        netDue("o0 1 3;c2 1 0;d2 0;", 3);
    }

    private void netDue(String text, int want) {
        SneakPaths x = new SneakPaths();
        Checks.type(x, text);
        due("net of '" + text + "'", x.net(), want);
        due("letters behind net of '" + text + "'", x.count(6), 0);
    }

    private void netFaults() {
        fault("n1;", 1);
        fault("n8;", 1);
        fault("n;", 1);
        fault("n10;", 1);
        fault("n03;", 1);
        fault("n 00;", 2);
        fault("n2;n2;", 3);
        fault("l1;n3;", 3);
        fault("n2;w0 2;", 6);
        fault("w3 0;", 1);
        fault("w1 1;", 3);
        fault("w0 1 2;", 5);
        fault("w0;", 2);
        fault("w19 0;", 1);
        fault("w91 0;", 1);
        fault("w01;", 1);
        fault("w0  12;", 4);
        fault("o0 1;", 4);
        fault("o0 1 4;", 5);
        fault("c0 1 0 0;", 7);
        fault("d0 1 0;", 5);
        fault("l0;", 1);
        fault("l3;", 1);
        fault("l1;l1;", 4);
        fault("n5;l1;l2;l3;l4;", 12);
        fault("w0 1;w0 1;w0 1;w0 1;w0 1;w0 1;w0 1;w0 1;w0 1;d0 1;", 45);
        fault(";", 0);
        fault("w0 1;;", 5);
        fault("5", 0);
        fault("  x", 2);
        fault("N3;", 0);
        fault("w0\t1;", 2);
        fault("w0,1;", 2);
        fault("w0 1;" + (char) 233, 5);
        fault("w0 w", 3);
        fault("n", 1);
        fault("n3", 2);
        fault("n3  ", 4);
        fault("w0 1", 4);
        fault("w0 ", 3);
        fault("w", 1);
        fault("l", 1);
        fault("n3;l1;l2;l", 10);
        fault("o0 1 0;w0 1;x n9;", 12);
    }

    private void fault(String text, int place) {
        SneakPaths x = Checks.told("n4;w0 1;l1;");
        x.wishes(0, 5);
        Checks.type(x, text);
        due("net of '" + text + "'", x.net(), -10 - place);
        due("the text stays: '" + text + "'", x.count(6), text.length());
        due("nodes stay: '" + text + "'", x.count(0), 4);
        due("contacts stay: '" + text + "'", x.count(1), 1);
        due("loads stay: '" + text + "'", x.count(2), 1);
        due("wishes stay: '" + text + "'", x.load(0, 2), 5);
        due("what can be undone stays: '" + text + "'", x.count(7), 1);
    }

    private void netAnew() {
        SneakPaths x = Checks.told(CHAIN);
        x.wishes(0, 7);
        x.cures(0, 1, 3);
        x.sticks(1, 2);
        x.sees(0, 0, 1);
        x.keep(0);
        x.keep(1);
        Checks.type(x, CHAIN);
        due("net anew", x.net(), 3);
        due("wished as fed", x.load(0, 2), S0 & ~S1);
        due("no cure", x.contact(0, 4), 4);
        due("does not stick", x.contact(1, 6), 0);
        due("nothing undone", x.count(7), 0);
        due("undo", x.undo(), STATE);
        due("no switch of a cure", x.cures(0, 4, 0), STATE);
        due("nothing seen", x.count(5), 0);
        due("image 0 is gone", x.back(0), STATE);
        due("image 1 is gone", x.back(1), STATE);
        due("an empty text tells all anew", x.net(), 0);
        due("no contacts then", x.count(1), 0);
        due("no loads then", x.count(2), 0);
        Checks.type(x, "n6;");
        x.net();
        Checks.type(x, "w0 1;");
        x.net();
        due("3 nodes if none are told", x.count(0), 3);
    }

    // 5
    private void contact() {
        SneakPaths x = Checks.told("n7;o6 0 3;c1 5 2;w4 3;d2 1;");
        int[][] want = {{0, 6, 0, 3, 4, NONE, 0}, {1, 1, 5, 2, 4, NONE, 0}, {2, 4, 3, NONE, 4, NONE, 0}, {3, 2, 1, NONE, 4, NONE, 0}};
        for (int c = 0; c < 4; c++) {
            for (int what = 0; what < 7; what++) {
                due("contact(" + c + ", " + what + ")", x.contact(c, what), want[c][what]);
            }
        }
        due("contact(4, 0)", x.contact(4, 0), BAD);
        due("contact(-1, 0)", x.contact(-1, 0), BAD);
        due("contact(0, -1)", x.contact(0, -1), BAD);
        due("contact(0, 7)", x.contact(0, 7), BAD);
        x.cures(2, 1, 3);
        due("a cure", x.contact(2, 4), 1);
        due("its switch", x.contact(2, 5), 3);
        due("not the contact's own", x.contact(2, 3), NONE);
        x.cures(2, 3, 0);
        due("a cure without a switch", x.contact(2, 5), NONE);
        x.sticks(3, 2);
        due("it sticks", x.contact(3, 6), 2);
    }

    // 6
    private void load() {
        SneakPaths x = Checks.told(BRIDGE);
        int fed = (S0 | S1) & S2;
        int[] want = {3, fed, fed, 0, 0, 2};
        for (int what = 0; what < 6; what++) {
            due("load(0, " + what + ")", x.load(0, what), want[what]);
        }
        x.wishes(0, S0 & S3);
        due("sneaks", x.load(0, 3), fed & ~(S0 & S3));
        due("missing", x.load(0, 4), S0 & S3 & ~fed);
        due("still fed", x.load(0, 1), fed);
        due("load(2, 0)", x.load(2, 0), BAD);
        due("load(-1, 0)", x.load(-1, 0), BAD);
        due("load(0, 6)", x.load(0, 6), BAD);
        due("load(0, -1)", x.load(0, -1), BAD);
        SneakPaths none = Checks.told("n2;l1;");
        due("without contacts never fed", none.load(0, 1), 0);
        due("without contacts no paths", none.load(0, 5), 0);
    }

    /** What kinds, cures and sticking make of one contact between 0 and 1. */
    private void shutAndWays() {
        String[] kinds = {"o0 1 2;l1;", "c0 1 2;l1;", "w0 1;l1;", "d0 1;l1;", "d1 0;l1;", "w1 0;l1;"};
        int[] plain = {S2, ALL & ~S2, ALL, ALL, 0, ALL};
        int[] forward = {S2, ALL & ~S2, ALL, ALL, 0, 0};
        int[] backward = {0, 0, 0, 0, 0, ALL};
        for (int i = 0; i < kinds.length; i++) {
            SneakPaths x = Checks.told(kinds[i]);
            due(kinds[i], x.load(0, 1), plain[i]);
            x.cures(0, 0, 1);
            due(kinds[i] + " cured by an open one", x.load(0, 1), plain[i] & S1);
            x.cures(0, 1, 1);
            due(kinds[i] + " cured by a closed one", x.load(0, 1), plain[i] & ~S1);
            x.cures(0, 2, 0);
            due(kinds[i] + " forward", x.load(0, 1), forward[i]);
            x.cures(0, 3, 0);
            due(kinds[i] + " backward", x.load(0, 1), backward[i]);
            x.sticks(0, 2);
            due(kinds[i] + " stuck shut", x.load(0, 1), ALL);
            due(kinds[i] + " stuck shut, paths", x.load(0, 5), 1);
            x.sticks(0, 1);
            due(kinds[i] + " stuck open", x.load(0, 1), 0);
            due(kinds[i] + " stuck open, paths", x.load(0, 5), 0);
            x.sticks(0, 0);
            x.cures(0, 4, 0);
            due(kinds[i] + " as at first", x.load(0, 1), plain[i]);
        }
    }

    // 7
    private void wishes() {
        SneakPaths x = Checks.told(CHAIN);
        due("wishes", x.wishes(0, ALL), S0 & ~S1);
        due("wishes again, the same", x.wishes(0, ALL), ALL);
        due("both may be undone", x.count(7), 2);
        due("wishes(0, 0)", x.wishes(0, 0), ALL);
        due("wishes(0, -1)", x.wishes(0, -1), BAD);
        due("wishes(0, 65536)", x.wishes(0, 65536), BAD);
        due("wishes(1, 0)", x.wishes(1, 0), BAD);
        due("wishes(-1, 0)", x.wishes(-1, 0), BAD);
        due("refused ones are not known", x.count(7), 3);
        due("nor did they change", x.load(0, 2), 0);
    }

    // 8
    private void cures() {
        SneakPaths x = Checks.told(CHAIN);
        due("none is the same", x.cures(0, 4, 0), STATE);
        due("open", x.cures(0, 0, 3), 4);
        due("the same", x.cures(0, 0, 3), STATE);
        due("of another switch", x.cures(0, 0, 2), 0);
        due("closed", x.cures(0, 1, 2), 0);
        due("forward", x.cures(0, 2, 0), 1);
        due("backward", x.cures(0, 3, 0), 2);
        due("backward again", x.cures(0, 3, 0), STATE);
        due("none", x.cures(0, 4, 0), 3);
        due("six are known", x.count(7), 6);
        int[][] bad = {{-1, 0, 0}, {2, 0, 0}, {0, -1, 0}, {0, 5, 0}, {0, 0, -1}, {0, 0, 4}, {0, 1, 4}, {0, 2, 1}, {0, 3, 1}, {0, 4, 1}};
        for (int[] b : bad) {
            due("cures(" + b[0] + ", " + b[1] + ", " + b[2] + ")", x.cures(b[0], b[1], b[2]), BAD);
        }
        due("still six", x.count(7), 6);
        due("still none", x.contact(0, 4), 4);
    }

    // 9
    private void sticks() {
        SneakPaths x = Checks.told(CHAIN);
        due("it is so", x.sticks(0, 0), STATE);
        due("open", x.sticks(0, 1), 0);
        due("open again", x.sticks(0, 1), STATE);
        due("shut", x.sticks(0, 2), 1);
        due("fed by the other alone", x.load(0, 1), ALL & ~S1);
        due("not", x.sticks(0, 0), 2);
        due("sticks(2, 0)", x.sticks(2, 0), BAD);
        due("sticks(-1, 1)", x.sticks(-1, 1), BAD);
        due("sticks(0, 3)", x.sticks(0, 3), BAD);
        due("sticks(0, -1)", x.sticks(0, -1), BAD);
        due("three are known", x.count(7), 3);
    }

    // 10
    private void undo() {
        SneakPaths x = Checks.told(CHAIN);
        due("nothing", x.undo(), STATE);
        x.cures(0, 1, 3);
        x.cures(0, 2, 0);
        x.sticks(1, 2);
        x.wishes(0, 9);
        due("the wish", x.undo(), 3);
        due("wished", x.load(0, 2), S0 & ~S1);
        due("the sticking", x.undo(), 2);
        due("sticks", x.contact(1, 6), 0);
        due("the second cure", x.undo(), 1);
        due("cure", x.contact(0, 4), 1);
        due("its switch", x.contact(0, 5), 3);
        due("the first cure", x.undo(), 0);
        due("no cure", x.contact(0, 4), 4);
        due("no more", x.undo(), STATE);
        for (int i = 1; i <= 13; i++) {
            x.wishes(0, i);
            due("known", x.count(7), Math.min(i, 10));
        }
        for (int i = 1; i <= 10; i++) {
            due("undo " + i, x.undo(), 10 - i);
            due("wished behind undo " + i, x.load(0, 2), 13 - i);
        }
        due("older ones are lost", x.undo(), STATE);
        due("wished now", x.load(0, 2), 3);
        undoOfManySorts();
    }

    /** Twelve deeds, the sorts mixed: the first two are lost, ten come back one by one. */
    private void undoOfManySorts() {
        SneakPaths x = Checks.told(BRIDGE);
        for (int i = 0; i < 4; i++) {
            x.cures(i, 1, i);
            x.sticks(4 - i, 1 + i % 2);
            x.wishes(i % 2, 100 + i);
        }
        for (int i = 3; i >= 0; i--) {
            due("undo the wish " + i, x.undo(), 3 * i);
            due("wished behind it", x.load(i % 2, 2), i >= 2 ? 98 + i : i == 1 ? (S0 | S1) & S3 : (S0 | S1) & S2);
            if (i > 0) {
                due("undo the sticking " + i, x.undo(), 3 * i - 1);
                due("it does not stick", x.contact(4 - i, 6), 0);
                due("undo the cure " + i, x.undo(), 3 * i - 2);
                due("it has none", x.contact(i, 4), 4);
                due("none is the same", x.cures(i, 4, 0), STATE);
            }
        }
        due("the oldest two are lost", x.undo(), STATE);
        SneakPaths y = Checks.told(CHAIN);
        for (int i = 0; i < 14; i++) {
            y.cures(0, i % 2, i % 4);
        }
        for (int i = 12; i >= 3; i--) {
            y.undo();
            due("the cure " + i, y.contact(0, 4), i % 2);
            due("the switch of the cure " + i, y.contact(0, 5), i % 4);
        }
        due("the oldest cure stays", x.contact(0, 5), 0);
        due("the oldest sticking stays", x.contact(4, 6), 1);
    }

    // 11
    private void path() {
        SneakPaths x = Checks.told(BRIDGE);
        pathDue(x, 0, 0, 0b00101, 2, S0 & S2);
        pathDue(x, 0, 1, 0b10110, 3, S1 & S2);
        pathDue(x, 0, 2, NONE, NONE, NONE);
        pathDue(x, 0, Integer.MAX_VALUE, NONE, NONE, NONE);
        pathDue(x, 1, 0, 0b11001, 3, S0 & S3);
        pathDue(x, 0, -1, BAD, BAD, BAD);
        pathDue(x, 2, 0, BAD, BAD, BAD);
        pathDue(x, -1, 0, BAD, BAD, BAD);
        due("path(0, 0, 3)", x.path(0, 0, 3), BAD);
        due("path(0, 0, -1)", x.path(0, 0, -1), BAD);
        due("path(0, 9, 3)", x.path(0, 9, 3), BAD);
        x.cures(4, 2, 0);
        due("the wire leads forth alone", x.load(0, 5), 1);
        x.sticks(4, 2);
        due("stuck shut it leads both ways", x.load(0, 5), 2);
        x.sticks(0, 1);
        pathDue(x, 0, 0, 0b10110, 3, S1 & S2);

        SneakPaths never = Checks.told("o0 1 0;c1 2 0;l2;");
        pathDue(never, 0, 0, 0b11, 2, 0);
        never.sticks(1, 2);
        pathDue(never, 0, 0, 0b11, 2, S0);
        SneakPaths longest = Checks.told("n7;w6 5;w5 4;w4 3;w3 2;w2 1;w1 0;l6;");
        pathDue(longest, 0, 0, 0b111111, 6, ALL);
        SneakPaths dead = Checks.told("d0 1;l1;");
        dead.cures(0, 3, 0);
        due("a diode cured backward is no way", dead.load(0, 5), 0);
    }

    private void pathDue(SneakPaths x, int l, int k, int bits, int length, int shut) {
        String call = "path(" + l + ", " + k + ", ";
        due(call + "0)", x.path(l, k, 0), bits);
        due(call + "1)", x.path(l, k, 1), length);
        due(call + "2)", x.path(l, k, 2), shut);
    }

    // 12
    private void shortest() {
        // Two ways of two contacts, a shorter one of switch 3 behind them.
        SneakPaths x = Checks.told("n4;w0 2;w0 1;w1 3;w2 3;o0 3 3;l3;");
        due("of two the first", x.shortest(0, 0, -1), 2);
        due("its first contact", x.shortest(0, 0, 0), 0);
        due("its second contact", x.shortest(0, 0, 1), 3);
        due("no third", x.shortest(0, 0, 2), NONE);
        due("the shorter one", x.shortest(0, 8, -1), 1);
        due("its contact", x.shortest(0, 8, 0), 4);
        due("shortest(0, 8, 1)", x.shortest(0, 8, 1), NONE);
        x.sticks(3, 1);
        due("the other one", x.shortest(0, 0, 0), 1);
        x.sticks(2, 1);
        due("not fed: how many", x.shortest(0, 0, -1), NONE);
        due("not fed: which", x.shortest(0, 0, 0), NONE);
        due("shortest(0, 0, -2)", x.shortest(0, 0, -2), BAD);
        due("shortest(0, 16, 0)", x.shortest(0, 16, 0), BAD);
        due("shortest(0, -1, 0)", x.shortest(0, -1, 0), BAD);
        due("shortest(1, 0, 0)", x.shortest(1, 0, 0), BAD);
        due("far beyond", x.shortest(0, 8, Integer.MAX_VALUE), NONE);
    }

    // 13
    private void parting() {
        SneakPaths x = Checks.told(BRIDGE);
        due("not fed", x.parting(0, 0), 0);
        due("of 0, 2 the least", x.parting(0, 5), 1);
        due("both feeds lead over 2", x.parting(0, 7), 4);
        due("parting(0, 16)", x.parting(0, 16), BAD);
        due("parting(0, -1)", x.parting(0, -1), BAD);
        due("parting(2, 0)", x.parting(2, 0), BAD);
        SneakPaths y = Checks.told("n4;w3 2;w3 1;w0 1;w0 2;l3;");
        due("of four pairs the least number", y.parting(0, 0), 0b0011);
        y.sticks(0, 2);
        due("one that sticks shut is parted like others", y.parting(0, 0), 0b0011);
        SneakPaths nine = Checks.told("w0 1;w0 1;w0 1;w0 1;w0 1;w0 1;w0 1;w0 1;w0 1;l1;");
        due("all nine", nine.parting(0, 3), 511);
        nine.sticks(4, 1);
        due("all but one that sticks open", nine.parting(0, 3), 511 - 16);
    }

    // 14
    private void enough() {
        SneakPaths x = Checks.told(BRIDGE);
        x.wishes(0, S0 & S2);
        // Contact 2 by open 0; the wire by open 0, by closed 1, or forward.
        due("how many", x.enough(0), 4);
        due("the first", x.enough(1), 200);
        due("nothing is changed", x.contact(2, 4), 4);
        due("load 0 is fed as it was", x.load(0, 1), (S0 | S1) & S2);
        due("nothing to undo but the wish", x.count(7), 1);
        x.cures(2, 0, 2);
        due("a contact with a cure gets none: how many", x.enough(0), 3);
        due("a contact with a cure gets none: the first", x.enough(1), 400);
        x.cures(4, 1, 2);
        due("load 1 is missing, yet the sneak is gone", x.load(1, 4), S0 & ~S1 & S2 & S3);
        due("what is missing now may go on missing", x.enough(0) > 0 ? 1 : 0, 1);
        due("enough(2)", x.enough(2), BAD);
        due("enough(-1)", x.enough(-1), BAD);

        SneakPaths one = Checks.told("n2;w0 1;l1;");
        due("nothing sneaks: forward alone takes nothing", one.enough(0), 1);
        due("it is", one.enough(1), 20);
        one.sticks(0, 2);
        due("stuck shut, no cure does anything", one.enough(0), 10);
        one.wishes(0, 0);
        due("nor does it help", one.enough(0), 0);
        due("none is the first", one.enough(1), NONE);
        one.sticks(0, 0);
        due("never to be fed: backward", one.enough(1), 30);
        one.wishes(0, ALL & ~S3);
        due("closed of switch 3", one.enough(1), 13);
        one.wishes(0, S1 & ~S2);
        one.cures(0, 0, 1);
        due("a contact with a cure", one.enough(0), 0);
        one.cures(0, 4, 0);
        due("neither alone is enough", one.enough(0), 0);
        SneakPaths row = Checks.told("n3;o0 1 0;w1 2;l2;");
        row.wishes(0, S0 | S3);
        due("it is missing in half of switch 3", row.load(0, 4), S3 & ~S0);
        row.cures(0, 1, 3);
        // Missing now: all of S0 | S3 but S0 & ~S3; another closed of switch 3, or forward, or open of 0.
        due("no more may be missing", row.enough(0), 3);
        due("the first of them", row.enough(1), 100);
    }

    // 15
    private void flash() {
        SneakPaths x = Checks.told(CHAIN);
        due("between", x.flash(0, 0, 3), 1);
        due("and back", x.flash(0, 3, 0), 1);
        due("others move too", x.flash(0, 8, 7), 1);
        due("fed at the end", x.flash(0, 0, 1), 0);
        due("fed at the start", x.flash(0, 1, 2), 0);
        due("one switch moves", x.flash(0, 0, 2), 0);
        due("none moves", x.flash(0, 0, 0), 0);
        due("switch 1 stays 1", x.flash(0, 2, 15), 0);
        due("flash(0, 16, 0)", x.flash(0, 16, 0), BAD);
        due("flash(0, 0, 16)", x.flash(0, 0, 16), BAD);
        due("flash(0, -1, 0)", x.flash(0, -1, 0), BAD);
        due("flash(1, 0, 0)", x.flash(1, 0, 0), BAD);
    }

    // 16
    private void odds() {
        SneakPaths two = Checks.told("w0 1;w0 1;l1;");
        oddsDue(two, 0, 1, 1);
        oddsDue(two, 1, 99, 100);
        oddsDue(two, 5, 3, 4);
        oddsDue(two, 10, 0, 1);
        two.sticks(0, 1);
        oddsDue(two, 1, 9, 10);
        two.sticks(0, 2);
        oddsDue(two, 1, 99, 100);
        SneakPaths row = Checks.told("n7;w0 1;w1 2;w2 3;w3 4;w4 5;w5 6;l6;");
        oddsDue(row, 3, 117649, 1000000);
        SneakPaths nine = Checks.told("w0 1;w0 1;w0 1;w0 1;w0 1;w0 1;w0 1;w0 1;w0 1;l1;");
        oddsDue(nine, 9, 612579511, 1000000000);
        oddsDue(nine, 0, 1, 1);
        SneakPaths x = Checks.told(CHAIN);
        due("not fed in this state: upper", x.odds(3, 0, 0, 0), 0);
        due("not fed in this state: lower", x.odds(3, 0, 0, 1), 1);
        due("fed in this state: upper", x.odds(2, 0, 1, 0), 16);
        due("fed in this state: lower", x.odds(2, 0, 1, 1), 25);
        due("odds(11, ..)", x.odds(11, 0, 0, 0), BAD);
        due("odds(-1, ..)", x.odds(-1, 0, 0, 0), BAD);
        due("odds of no load", x.odds(0, 1, 0, 0), BAD);
        due("odds of no state", x.odds(0, 0, 16, 0), BAD);
        due("odds, no such number", x.odds(0, 0, 0, 2), BAD);
        due("odds, no such number either", x.odds(0, 0, 0, -1), BAD);
    }

    private void oddsDue(SneakPaths x, int tenths, int upper, int lower) {
        due("odds by " + tenths + ", upper", x.odds(tenths, 0, 0, 0), upper);
        due("odds by " + tenths + ", lower", x.odds(tenths, 0, 0, 1), lower);
    }

    // 17
    private void sees() {
        SneakPaths x = Checks.told(CHAIN);
        due("sees(1, 0, 0)", x.sees(1, 0, 0), BAD);
        due("sees(0, 16, 0)", x.sees(0, 16, 0), BAD);
        due("sees(0, -1, 0)", x.sees(0, -1, 0), BAD);
        due("sees(0, 0, 2)", x.sees(0, 0, 2), BAD);
        due("sees(0, 0, -1)", x.sees(0, 0, -1), BAD);
        for (int i = 1; i <= 6; i++) {
            due("sees " + i, x.sees(0, 1, 1), i);
        }
        due("one too many", x.sees(0, 1, 1), FULL);
        due("BAD comes ahead of FULL", x.sees(0, 16, 1), BAD);
        due("seen", x.count(5), 6);
        due("it is nothing to undo", x.undo(), STATE);
    }

    // 18
    private void forget() {
        SneakPaths x = Checks.told(CHAIN);
        due("nothing", x.forget(), 0);
        x.sees(0, 0, 1);
        x.sees(0, 1, 0);
        due("forget", x.forget(), 2);
        due("seen", x.count(5), 0);
        due("any could stick again", x.unseen(1), 3);
    }

    // 19
    private void unseen() {
        SneakPaths x = Checks.told("o0 1 0;c0 1 1;w1 2;l2;");
        due("nothing seen: open", x.unseen(1), 7);
        due("nothing seen: shut", x.unseen(2), 7);
        x.sees(0, 2, 1);
        due("fed unduly: open", x.unseen(1), 0);
        due("fed unduly: shut", x.unseen(2), 3);
        x.forget();
        x.sees(0, 0, 0);
        due("not fed unduly: open", x.unseen(1), 6);
        due("not fed unduly: shut", x.unseen(2), 0);
        x.sees(0, 1, 1);
        due("fed by contact 0: open", x.unseen(1), 2);
        x.sees(0, 1, 0);
        due("fed and not fed: open", x.unseen(1), 0);
        due("unseen(0)", x.unseen(0), BAD);
        due("unseen(3)", x.unseen(3), BAD);
        due("nothing sticks by it", x.contact(1, 6), 0);
        x.forget();
        x.sticks(1, 1);
        x.sees(0, 0, 0);
        due("others as they are now: open", x.unseen(1), 7);
        due("others as they are now: shut", x.unseen(2), 4);
        SneakPaths two = Checks.told("w0 1;w0 2;l1;l2;");
        two.sees(1, 0, 0);
        due("seen of load 1", two.unseen(1), 2);
        two.sees(0, 0, 1);
        due("seen of both loads", two.unseen(1), 2);
    }

    // 20, 21
    private void images() {
        SneakPaths x = Checks.told(CHAIN);
        due("keep(2)", x.keep(2), BAD);
        due("keep(-1)", x.keep(-1), BAD);
        due("back(2)", x.back(2), BAD);
        due("back(-1)", x.back(-1), BAD);
        due("none kept", x.back(0), STATE);
        x.cures(0, 1, 2);
        x.sticks(1, 1);
        x.wishes(0, 77);
        due("keep(0)", x.keep(0), 2);
        due("the other is not kept", x.back(1), STATE);
        due("keeping does not forget", x.count(7), 3);
        x.cures(0, 0, 3);
        x.sticks(1, 2);
        x.wishes(0, 78);
        x.sees(0, 3, 1);
        x.type('n');
        due("keep(1)", x.keep(1), 2);
        due("back(0)", x.back(0), 2);
        due("cure", x.contact(0, 4), 1);
        due("its switch", x.contact(0, 5), 2);
        due("sticks", x.contact(1, 6), 1);
        due("wished", x.load(0, 2), 77);
        due("nothing can be undone", x.undo(), STATE);
        due("what was seen stays", x.count(5), 1);
        due("the text stays", x.count(6), 1);
        x.wishes(0, 5);
        due("later ones can", x.undo(), 0);
        due("back(1)", x.back(1), 2);
        due("wished there", x.load(0, 2), 78);
        x.wishes(0, 79);
        due("back(1) again", x.back(1), 2);
        due("the image was not changed", x.load(0, 2), 78);
        x.keep(0);
        x.wishes(0, 80);
        x.back(0);
        due("kept anew", x.load(0, 2), 78);
    }

    // 22
    private void count() {
        SneakPaths x = Checks.told(BRIDGE);
        x.wishes(0, S0 & S3);
        x.sees(0, 0, 0);
        Checks.type(x, "n2");
        int[] want = {5, 5, 2, 1, 1, 1, 2, 1};
        for (int what = 0; what < want.length; what++) {
            due("count(" + what + ")", x.count(what), want[what]);
        }
        x.wishes(1, 0);
        due("both sneak", x.count(3), 2);
        due("one is missing", x.count(4), 1);
        x.wishes(1, ALL);
        due("one sneaks", x.count(3), 1);
        due("both are missing", x.count(4), 2);
        due("count(8)", x.count(8), BAD);
        due("count(-1)", x.count(-1), BAD);
    }

    /** No argument whatever makes a call throw, and a refused one changes nothing. */
    private void wildArguments() {
        int[] wild = {Integer.MIN_VALUE, -65536, -10, -9, -2, -1, 7, 9, 16, 17, 31, 32, 100, 65536, Integer.MAX_VALUE};
        String[] nets = {"", BRIDGE, "n2;l1;", "w0 1;"};
        for (String net : nets) {
            for (int a : wild) {
                SneakPaths x = Checks.told(net);
                for (int b : wild) {
                    callsThatChangeNothing(x, a, b);
                }
                due("nothing was done", x.count(7), 0);
                due("nothing was seen", x.count(5), 0);
                due("nothing was typed", x.count(6), 0);
                due("no image was kept", x.back(0) + x.back(1), 2 * STATE);
            }
        }
    }

    private void callsThatChangeNothing(SneakPaths x, int a, int b) {
        int[] answers = {
            x.type(a < 0 || a > 255 ? a : -1), x.contact(a, b), x.load(a, b), x.wishes(a, b),
            x.cures(a, b, a), x.cures(0, a, b < 0 || b > 3 ? b : 4), x.sticks(a, b), x.sticks(0, a),
            x.path(a, b, 0), x.path(0, Math.min(a, -1), b), x.shortest(a, b, 0), x.shortest(0, a < 0 || a > 15 ? a : 16, b),
            x.parting(a, b), x.enough(a), x.flash(a, b, a), x.odds(a, b, a, b),
            x.sees(a, b, 0), x.sees(0, 0, a), x.unseen(a), x.keep(a), x.back(a),
            x.count(a < 0 ? a : Math.max(8, a)),
        };
        for (int i = 0; i < answers.length; i++) {
            due("wild call " + i + " with " + a + ", " + b, answers[i], BAD);
        }
    }
}
