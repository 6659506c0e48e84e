/** The edges of what is done: promises 7 to 10 (wishes, cures, sticks, undo), 20 and 21 (images). */
public final class DeedsEdgesTest {
    private static final int BAD = SneakPaths.BAD, STATE = SneakPaths.STATE, NONE = SneakPaths.NONE;
    private static final int ALL = 65535;
    private static final String NET = "n4;o0 1 0;w1 2;d0 3;l1;l2;l3;";
    private static final String NINE = "w0 1;".repeat(9) + "l1;";
    private static final int[] WILD = {Integer.MIN_VALUE, -65536, -9, -2, 10, 16, 32, 64, 256, 131072, Integer.MAX_VALUE};

    private final Checks checks = new Checks();

    public static void main(String[] args) {
        DeedsEdgesTest t = new DeedsEdgesTest();
        t.wishes();
        t.cures();
        t.curesOfTheLastContact();
        t.sticks();
        t.undo();
        t.tenAreKnown();
        t.refusedAreNotKnown();
        t.keep();
        t.back();
        t.nothingElseIsKept();
        t.nothingUndoneBehindBack();
        t.checks.end("DeedsEdgesTest");
    }

    private void due(String what, long got, long want) {
        checks.due(what, got, want);
    }

    private void wishes() {
        checks.sentence("WISHED anew (16 bits): what it was. BAD.");
        SneakPaths x = Checks.told(NET);
        due("all states", x.wishes(2, ALL), ALL);
        due("no states", x.wishes(2, 0), ALL);
        due("state 15 alone", x.wishes(2, 0x8000), 0);
        due("it holds", x.load(2, 2), 0x8000);
        due("the others keep theirs", x.load(0, 2), 0xAAAA);
        due("the same is not refused", x.wishes(2, 0x8000), 0x8000);
        due("and is known", x.count(7), 4);
        due("states too small", x.wishes(2, -1), BAD);
        due("states too large", x.wishes(2, 65536), BAD);
        due("a bit above 16 of them", x.wishes(2, 65536 + 5), BAD);
        due("load too small", x.wishes(-1, 0), BAD);
        due("load too large", x.wishes(3, 0), BAD);
        for (int wild : WILD) {
            due("wishes(" + wild + ", 0)", x.wishes(wild, 0), BAD);
            if (wild < 0 || wild > ALL) {
                due("wishes(0, " + wild + ")", x.wishes(0, wild), BAD);
            }
        }
        due("nothing has changed: wished", x.load(2, 2), 0x8000);
        due("nothing has changed: known", x.count(7), 4);
        due("no loads", Checks.told("w0 1;").wishes(0, 0), BAD);
    }

    private void cures() {
        checks.sentence("CURED: kind 0 to 4, a SWITCH (0 to 3; 2 to 4: 0): the CURE that it had (0 to 4). BAD; STATE: it is the same.");
        SneakPaths x = Checks.told(NET);
        int had = 4;
        int deeds = 0;
        for (int kind = 0; kind <= 4; kind++) {
            int last = kind < 2 ? 3 : 0;
            for (int by = 0; by <= last; by++) {
                due("cure " + kind + " " + by, x.cures(2, kind, by), had);
                due("the same", x.cures(2, kind, by), STATE);
                had = kind;
                deeds++;
                due("known", x.count(7), Math.min(deeds, 10));
            }
            due("switch too small for " + kind, x.cures(2, kind, -1), BAD);
            due("switch too large for " + kind, x.cures(2, kind, last + 1), BAD);
            due("switch 4 for " + kind, x.cures(2, kind, 4), BAD);
            due("a cure stays", x.contact(2, 4), kind);
            due("its switch stays", x.contact(2, 5), kind < 2 ? last : NONE);
        }
        due("kind too small", x.cures(2, -1, 0), BAD);
        due("kind too large", x.cures(2, 5, 0), BAD);
        due("contact too small", x.cures(-1, 0, 0), BAD);
        due("contact too large", x.cures(3, 0, 0), BAD);
        for (int wild : WILD) {
            due("cures(" + wild + ", 0, 0)", x.cures(wild, 0, 0), BAD);
            due("cures(0, " + wild + ", 0)", x.cures(0, wild, 0), BAD);
            due("cures(0, 0, " + wild + ")", x.cures(0, 0, wild), BAD);
            due("cures(0, 4, " + wild + ")", x.cures(0, 4, wild), BAD);
        }
        due("none at first: none is the same", x.cures(0, 4, 0), STATE);
        due("BAD ahead of STATE: none of a switch", x.cures(0, 4, 1), BAD);
        due("BAD ahead of STATE: no such contact", x.cures(3, 4, 0), BAD);
    }

    private void curesOfTheLastContact() {
        checks.sentence("a CURE: none (at first)");
        due("at first", Checks.told(NINE).contact(8, 4), 4);
        checks.sentence("CURED: a CONTACT has another CURE (4: none).");
        SneakPaths x = Checks.told(NINE);
        due("the ninth", x.cures(8, 1, 3), 4);
        due("a tenth", x.cures(9, 1, 3), BAD);
        due("the ninth has it", x.contact(8, 4), 1);
        due("the eighth has not", x.contact(7, 4), 4);
        due("of another switch it is another", x.cures(8, 1, 0), 1);
        due("of another kind, too", x.cures(8, 0, 0), 1);
        due("none again", x.cures(8, 4, 0), 0);
        due("it has none", x.contact(8, 4), 4);
        due("no switch is left: the same", x.cures(8, 4, 0), STATE);
        due("and another", x.cures(8, 0, 0), 4);
    }

    private void sticks() {
        checks.sentence("STICKING (0 to 2): how it was. BAD; STATE: it is so.");
        SneakPaths x = Checks.told(NINE);
        int[] turns = {1, 2, 1, 0, 2, 0};
        int was = 0;
        for (int how : turns) {
            due("it is so", x.sticks(8, was), STATE);
            due("sticks " + how, x.sticks(8, how), was);
            was = how;
        }
        due("known", x.count(7), 6);
        checks.sentence("STICKING: a CONTACT sticks (0 not, 1 open, 2 shut).");
        due("how too small", x.sticks(8, -1), BAD);
        due("how too large", x.sticks(8, 3), BAD);
        due("contact too small", x.sticks(-1, 1), BAD);
        due("contact too large", x.sticks(9, 1), BAD);
        due("BAD ahead of STATE", x.sticks(9, 0), BAD);
        for (int wild : WILD) {
            due("sticks(" + wild + ", 1)", x.sticks(wild, 1), BAD);
            due("sticks(0, " + wild + ")", x.sticks(0, wild), BAD);
        }
        due("nothing has changed", x.count(7), 6);
        due("it does not stick", x.contact(0, 6), 0);
    }

    private void undo() {
        checks.sentence("UNDONE: how many more may be. STATE: none.");
        SneakPaths x = Checks.told(NET);
        due("none", x.undo(), STATE);
        x.wishes(1, 7);
        due("one wish", x.undo(), 0);
        due("as it was", x.load(1, 2), 0xAAAA);
        due("none more", x.undo(), STATE);
        x.cures(1, 1, 3);
        x.cures(1, 0, 3);
        x.cures(1, 0, 2);
        x.cures(1, 3, 0);
        x.cures(1, 4, 0);
        int[][] before = {{3, NONE}, {0, 2}, {0, 3}, {1, 3}, {4, NONE}};
        for (int i = 0; i < before.length; i++) {
            due("a cure undone", x.undo(), 4 - i);
            due("the one before", x.contact(1, 4), before[i][0]);
            due("its switch", x.contact(1, 5), before[i][1]);
        }
        due("none is the same again", x.cures(1, 4, 0), STATE);
        x.sticks(2, 1);
        x.sticks(2, 2);
        due("a sticking undone", x.undo(), 1);
        due("as it was", x.contact(2, 6), 1);
        due("the other one", x.undo(), 0);
        due("as at first", x.contact(2, 6), 0);
        due("undone is not done", x.undo(), STATE);
        x.wishes(0, 1);
        x.wishes(0, 2);
        x.undo();
        x.wishes(0, 3);
        due("a deed behind an undo", x.undo(), 1);
        due("its own before", x.load(0, 2), 1);
        due("and the first", x.undo(), 0);
        due("as fed", x.load(0, 2), 0xAAAA);
        SneakPaths same = Checks.told(NET);
        same.wishes(0, 0xAAAA);
        due("the same wish is undone as well", same.undo(), 0);
    }

    private void tenAreKnown() {
        checks.sentence("(10 are known, older ones are lost)");
        for (int deeds = 9; deeds <= 12; deeds++) {
            wishesUndone(deeds);
            sticksUndone(deeds);
        }
        wishesUndone(25);
        curesUndone();
        mixedDeedsUndone();
    }

    private void wishesUndone(int deeds) {
        SneakPaths x = Checks.told("w0 1;l1;");
        for (int i = 1; i <= deeds; i++) {
            x.wishes(0, i);
            due("known behind " + i, x.count(7), Math.min(i, 10));
        }
        int known = Math.min(deeds, 10);
        for (int i = 1; i <= known; i++) {
            due(deeds + " wishes, undo " + i, x.undo(), known - i);
            due("wished then", x.load(0, 2), deeds == i ? ALL : deeds - i);
        }
        due(deeds + " wishes, no more", x.undo(), STATE);
        due("nothing is known", x.count(7), 0);
        due("what is lost stays", x.load(0, 2), deeds > 10 ? deeds - 10 : ALL);
    }

    /** Contacts 0, 1, .. 8, 0, 1, .. stick, so that each deed has its own contact. */
    private void sticksUndone(int deeds) {
        SneakPaths x = Checks.told(NINE);
        for (int i = 0; i < deeds; i++) {
            x.sticks(i % 9, i < 9 ? 1 : 2);
        }
        for (int i = deeds - 1; i >= Math.max(0, deeds - 10); i--) {
            x.undo();
            due(deeds + " stickings, contact " + i % 9, x.contact(i % 9, 6), i < 9 ? 0 : 1);
        }
        due("no more", x.undo(), STATE);
        for (int i = 0; i < deeds - 10; i++) {
            due("what is lost stays", x.contact(i, 6), 1);
        }
    }

    private void curesUndone() {
        SneakPaths x = Checks.told(NINE);
        for (int i = 0; i < 13; i++) {
            x.cures(8, i % 2, i % 4);
        }
        for (int i = 11; i >= 2; i--) {
            x.undo();
            due("the cure " + i, x.contact(8, 4), i % 2);
            due("its switch", x.contact(8, 5), i % 4);
        }
        due("no more cures", x.undo(), STATE);
    }

    /** Wish, cure, sticking in turn, four of each: a wish and a cure are lost, then a sticking is first. */
    private void mixedDeedsUndone() {
        SneakPaths x = Checks.told(NINE);
        for (int i = 0; i < 4; i++) {
            x.wishes(0, i);
            x.cures(i, 1, i);
            x.sticks(i, 2);
        }
        for (int i = 3; i >= 0; i--) {
            x.undo();
            due("sticking " + i + " undone", x.contact(i, 6), 0);
            if (i == 0) {
                break;
            }
            due("cure " + i + " is still there", x.contact(i, 5), i);
            x.undo();
            due("cure " + i + " undone", x.contact(i, 4), 4);
            due("wish " + i + " is still there", x.load(0, 2), i);
            due("undo of wish " + i, x.undo(), 3 * i - 2);
            due("wish " + i + " undone", x.load(0, 2), i - 1);
        }
        due("no more deeds", x.undo(), STATE);
        due("the oldest cure is lost and stays", x.contact(0, 4), 1);
        due("the oldest wish is lost and stays", x.load(0, 2), 0);
    }

    private void refusedAreNotKnown() {
        checks.sentence("UNDONE: the latest wishes(), cures(), sticks() that was not refused");
        SneakPaths x = Checks.told(NET);
        for (int i = 1; i <= 10; i++) {
            x.wishes(0, i);
        }
        x.wishes(0, 65536);
        x.wishes(3, 1);
        x.cures(0, 5, 0);
        x.cures(0, 4, 0);
        x.sticks(0, 3);
        x.sticks(0, 0);
        x.back(0);
        x.keep(1);
        x.sees(0, 0, 0);
        x.forget();
        x.type('x');
        x.net();
        x.clear();
        due("ten are known still", x.count(7), 10);
        for (int i = 9; i >= 0; i--) {
            due("undo", x.undo(), i);
        }
        due("none was lost", x.load(0, 2), 0xAAAA);
    }

    private void keep() {
        checks.sentence("An IMAGE is kept: CONTACTS. BAD.");
        SneakPaths x = Checks.told(NET);
        due("image 0", x.keep(0), 3);
        due("image 1", x.keep(1), 3);
        due("again", x.keep(1), 3);
        due("too small", x.keep(-1), BAD);
        due("too large", x.keep(2), BAD);
        for (int wild : WILD) {
            due("keep(" + wild + ")", x.keep(wild), BAD);
        }
        due("no contacts", new SneakPaths().keep(0), 0);
        due("nine contacts", Checks.told(NINE).keep(0), 9);
    }

    private void back() {
        checks.sentence("All of that becomes as an IMAGE has it: CONTACTS. BAD; STATE: none was kept.");
        SneakPaths x = Checks.told(NET);
        due("image 0: none", x.back(0), STATE);
        due("image 1: none", x.back(1), STATE);
        due("too small", x.back(-1), BAD);
        due("too large", x.back(2), BAD);
        for (int wild : WILD) {
            due("back(" + wild + ")", x.back(wild), BAD);
        }
        x.keep(0);
        due("image 1: still none", x.back(1), STATE);
        x.wishes(2, 5);
        x.cures(2, 1, 3);
        x.sticks(1, 2);
        x.keep(1);
        due("image 0", x.back(0), 3);
        asDue(x, ALL, 4, NONE, 0);
        due("image 1", x.back(1), 3);
        asDue(x, 5, 1, 3, 2);
        due("image 1 again", x.back(1), 3);
        asDue(x, 5, 1, 3, 2);
        x.cures(2, 0, 1);
        x.keep(0);
        x.cures(2, 4, 0);
        due("image 0, kept anew", x.back(0), 3);
        asDue(x, 5, 0, 1, 2);
        x.back(1);
        asDue(x, 5, 1, 3, 2);
        due("the cure of the image is the same", x.cures(2, 1, 3), STATE);
        due("it sticks so", x.sticks(1, 2), STATE);
        SneakPaths only = Checks.told(NET);
        only.keep(1);
        due("image 0: none, though 1 is", only.back(0), STATE);
    }

    /** Of load 2 what is wished, of contact 2 the cure, of contact 1 how it sticks. */
    private void asDue(SneakPaths x, int wished, int cure, int by, int sticks) {
        due("wished", x.load(2, 2), wished);
        due("cure", x.contact(2, 4), cure);
        due("its switch", x.contact(2, 5), by);
        due("sticks", x.contact(1, 6), sticks);
    }

    private void nothingElseIsKept() {
        checks.sentence("IMAGES 0, 1 keep WISHES, CURES, what sticks; nothing else");
        SneakPaths x = Checks.told(NET);
        x.sees(0, 0, 1);
        x.type('w');
        x.keep(0);
        x.sees(0, 1, 1);
        x.type('0');
        x.back(0);
        due("seen stays", x.count(5), 2);
        due("the text stays", x.count(6), 2);
        x.forget();
        x.clear();
        x.back(0);
        due("seen is not kept", x.count(5), 0);
        due("the text is not kept", x.count(6), 0);
        due("the net is there", x.count(1), 3);
        due("the other image is not", x.back(1), STATE);
        x.wishes(0, 9);
        x.keep(0);
        x.undo();
        x.back(0);
        due("undo does not touch an image", x.load(0, 2), 9);
    }

    private void nothingUndoneBehindBack() {
        checks.sentence("(nothing can be UNDONE behind back())");
        SneakPaths x = Checks.told(NET);
        x.wishes(0, 1);
        x.keep(0);
        due("keep takes nothing", x.count(7), 1);
        x.wishes(0, 2);
        x.back(1);
        due("a refused back takes nothing", x.count(7), 2);
        x.back(2);
        due("a bad one neither", x.count(7), 2);
        x.back(0);
        due("nothing", x.count(7), 0);
        due("undo", x.undo(), STATE);
        due("wished as kept", x.load(0, 2), 1);
        for (int i = 1; i <= 11; i++) {
            x.wishes(0, 100 + i);
            due("later ones", x.count(7), Math.min(i, 10));
        }
        for (int i = 0; i < 10; i++) {
            x.undo();
        }
        due("ten of them", x.load(0, 2), 101);
    }
}
