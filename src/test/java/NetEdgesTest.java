/** The edges of the net: promises 1, 5, 6, 22 and what the terms say of CONTACTS, LOADS, FED. */
public final class NetEdgesTest {
    private static final int BAD = SneakPaths.BAD, STATE = SneakPaths.STATE, NONE = SneakPaths.NONE;
    private static final int ALL = 65535;
    private static final int[] ON = {0xAAAA, 0xCCCC, 0xF0F0, 0xFF00};
    private static final int[] WILD = {Integer.MIN_VALUE, -65536, -9, -2, 10, 16, 32, 64, 256, 65536, Integer.MAX_VALUE};

    private final Checks checks = new Checks();

    public static void main(String[] args) {
        NetEdgesTest t = new NetEdgesTest();
        t.newObject();
        t.numberedAsTold();
        t.contactsAsked();
        t.cureAsked();
        t.loadsAsked();
        t.switchIsBit();
        t.alwaysShut();
        t.cureShutsToo();
        t.oneWayCures();
        t.sticking();
        t.fed();
        t.wishedSneaksMissing();
        t.counts();
        t.lastCall();
        t.checks.end("NetEdgesTest");
    }

    private void due(String what, long got, long want) {
        checks.due(what, got, want);
    }

    private void newObject() {
        checks.sentence("As told; no CONTACTS, no LOADS.");
        SneakPaths x = new SneakPaths();
        int[] counts = {3, 0, 0, 0, 0, 0, 0, 0};
        for (int what = 0; what < counts.length; what++) {
            due("count(" + what + ")", x.count(what), counts[what]);
        }
        due("contact(0, 0)", x.contact(0, 0), BAD);
        due("load(0, 0)", x.load(0, 0), BAD);
        due("wishes", x.wishes(0, 0), BAD);
        due("cures", x.cures(0, 0, 0), BAD);
        due("cures, none", x.cures(0, 4, 0), BAD);
        due("sticks", x.sticks(0, 1), BAD);
        due("sticks, not", x.sticks(0, 0), BAD);
        due("undo", x.undo(), STATE);
        due("path", x.path(0, 0, 0), BAD);
        due("shortest", x.shortest(0, 0, -1), BAD);
        due("parting", x.parting(0, 0), BAD);
        due("enough, how many", x.enough(0), 0);
        due("enough, the first", x.enough(1), NONE);
        due("flash", x.flash(0, 0, 0), BAD);
        due("odds", x.odds(0, 0, 0, 0), BAD);
        due("sees", x.sees(0, 0, 0), BAD);
        due("forget", x.forget(), 0);
        due("unseen, open", x.unseen(1), 0);
        due("unseen, shut", x.unseen(2), 0);
        due("back(0)", x.back(0), STATE);
        due("back(1)", x.back(1), STATE);
        due("keep", x.keep(0), 0);
        due("back to it", x.back(0), 0);
        due("clear", x.clear(), 0);
        due("net", x.net(), 0);
        due("gone behind net", x.back(0), STATE);
    }

    private void numberedAsTold() {
        checks.sentence("o U V S, c U V S, w U V, d U V (the next CONTACT, OPEN, CLOSED, WIRE, DIODE) ; l U (the next LOAD)");
        SneakPaths x = Checks.told("n5;l4;d0 1;c1 2 3;l2;w2 3;o3 4 1;l1;");
        int[] kinds = {3, 1, 2, 0};
        int[] nodes = {4, 2, 1};
        for (int c = 0; c < 4; c++) {
            due("kind of contact " + c, x.contact(c, 0), kinds[c]);
            due("first node of contact " + c, x.contact(c, 1), c);
            due("second node of contact " + c, x.contact(c, 2), c + 1);
        }
        for (int l = 0; l < 3; l++) {
            due("node of load " + l, x.load(l, 0), nodes[l]);
        }
        checks.sentence("CONTACTS 0, 1, .. (9 at most), between two unlike NODES");
        due("no fifth", x.contact(4, 0), BAD);
        due("nine", Checks.told("w0 1;".repeat(9)).contact(8, 0), 2);
        checks.sentence("LOADS 0, 1, .. (3 at most), each at a NODE that is not 0, no two at one.");
        due("no fourth", x.load(3, 0), BAD);
        due("the third", x.load(2, 0), 1);
    }

    private void contactsAsked() {
        checks.sentence("Of a CONTACT: 0 KIND, 1 its first NODE, 2 the second one, 3 its SWITCH (NONE: WIRE, DIODE)");
        SneakPaths x = Checks.told("n7;o0 6 0;o6 0 3;c0 1 0;c5 4 3;w0 6;w6 0;d0 6;d6 0;d2 3;");
        int[][] want = {
            {0, 0, 6, 0}, {0, 6, 0, 3}, {1, 0, 1, 0}, {1, 5, 4, 3}, {2, 0, 6, NONE}, {2, 6, 0, NONE},
            {3, 0, 6, NONE}, {3, 6, 0, NONE}, {3, 2, 3, NONE},
        };
        for (int c = 0; c < 9; c++) {
            for (int what = 0; what < 4; what++) {
                due("contact(" + c + ", " + what + ")", x.contact(c, what), want[c][what]);
            }
            due("its cure at first", x.contact(c, 4), 4);
            due("the switch of that", x.contact(c, 5), NONE);
            due("it does not stick at first", x.contact(c, 6), 0);
        }
        checks.sentence("6 whether it sticks (0 to 2). BAD.");
        due("contact(-1, 0)", x.contact(-1, 0), BAD);
        due("contact(9, 0)", x.contact(9, 0), BAD);
        due("contact(0, -1)", x.contact(0, -1), BAD);
        due("contact(0, 7)", x.contact(0, 7), BAD);
        due("contact(9, 7)", x.contact(9, 7), BAD);
        for (int wild : WILD) {
            due("contact(" + wild + ", 0)", x.contact(wild, 0), BAD);
            due("contact(0, " + wild + ")", x.contact(0, wild), BAD);
        }
        SneakPaths one = Checks.told("w0 1;");
        due("just one: 0", one.contact(0, 0), 2);
        due("just one: 1", one.contact(1, 0), BAD);
        for (int how = 2; how >= 0; how--) {
            one.sticks(0, how);
            due("sticks " + how, one.contact(0, 6), how);
        }
    }

    private void cureAsked() {
        checks.sentence("4 its CURE (0 to 3; 4 none), 5 the SWITCH of that (NONE: 2 to 4)");
        SneakPaths x = Checks.told("o0 1 1;w0 1;");
        for (int c = 0; c < 2; c++) {
            for (int kind = 0; kind <= 4; kind++) {
                for (int by = 0; by <= (kind < 2 ? 3 : 0); by++) {
                    x.cures(c, kind, by);
                    due("cure " + kind + " " + by + ": kind", x.contact(c, 4), kind);
                    due("cure " + kind + " " + by + ": switch", x.contact(c, 5), kind < 2 ? by : NONE);
                    due("its own switch", x.contact(c, 3), c == 0 ? 1 : NONE);
                }
            }
        }
    }

    private void loadsAsked() {
        checks.sentence("5 how many PATHS. BAD.");
        SneakPaths x = Checks.told("n4;w0 3;l3;l1;l2;");
        int[][] want = {{3, ALL, ALL, 0, 0, 1}, {1, 0, 0, 0, 0, 0}, {2, 0, 0, 0, 0, 0}};
        for (int l = 0; l < 3; l++) {
            for (int what = 0; what < 6; what++) {
                due("load(" + l + ", " + what + ")", x.load(l, what), want[l][what]);
            }
        }
        due("load(-1, 0)", x.load(-1, 0), BAD);
        due("load(3, 0)", x.load(3, 0), BAD);
        due("load(0, -1)", x.load(0, -1), BAD);
        due("load(0, 6)", x.load(0, 6), BAD);
        for (int wild : WILD) {
            due("load(" + wild + ", 0)", x.load(wild, 0), BAD);
            due("load(0, " + wild + ")", x.load(0, wild), BAD);
        }
        SneakPaths none = Checks.told("w0 1;");
        for (int what = 0; what < 6; what++) {
            due("no loads: load(0, " + what + ")", none.load(0, what), BAD);
        }
    }

    private void switchIsBit() {
        checks.sentence("0 OPEN (shut when its SWITCH is 1), 1 CLOSED (shut when it is 0)");
        SneakPaths both = Checks.told("o0 1 2;c0 2 2;l1;l2;");
        due("open", both.load(0, 1), 0xF0F0);
        due("closed", both.load(1, 1), 0x0F0F);
        checks.sentence("STATES 0 .. 15 (switch k is bit k)");
        for (int k = 0; k < 4; k++) {
            due("open of " + k, Checks.told("o0 1 " + k + ";l1;").load(0, 1), ON[k]);
            due("closed of " + k, Checks.told("c0 1 " + k + ";l1;").load(0, 1), ALL - ON[k]);
        }
        due("state 15 alone", Checks.told("n5;o0 1 0;o1 2 1;o2 3 2;o3 4 3;l4;").load(0, 1), 0x8000);
        due("state 0 alone", Checks.told("n5;c0 1 0;c1 2 1;c2 3 2;c3 4 3;l4;").load(0, 1), 1);
        due("state 6 alone", Checks.told("n5;c0 1 0;o1 2 1;o2 3 2;c3 4 3;l4;").load(0, 1), 0x40);
        due("all but state 0", Checks.told("o0 1 0;o0 1 1;o0 1 2;o0 1 3;l1;").load(0, 1), 0xFFFE);
    }

    private void alwaysShut() {
        checks.sentence("2 WIRE (shut always), 3 DIODE (shut always, just from its first NODE to the second)");
        due("a wire", Checks.told("w0 1;l1;").load(0, 1), ALL);
        due("a wire, back", Checks.told("w1 0;l1;").load(0, 1), ALL);
        due("a diode", Checks.told("d0 1;l1;").load(0, 1), ALL);
        due("a diode, back", Checks.told("d1 0;l1;").load(0, 1), 0);
        due("a diode, back: paths", Checks.told("d1 0;l1;").load(0, 5), 0);
        due("an open one, back", Checks.told("o1 0 2;l1;").load(0, 1), ON[2]);
        due("a closed one, back", Checks.told("c1 0 2;l1;").load(0, 1), ALL - ON[2]);
    }

    private void cureShutsToo() {
        checks.sentence("0 OPEN or 1 CLOSED of a SWITCH (it must be shut by this, too)");
        String[] nets = {"o0 1 2;l1;", "c0 1 2;l1;", "w0 1;l1;", "d0 1;l1;"};
        int[] fed = {ON[2], ALL - ON[2], ALL, ALL};
        for (int i = 0; i < nets.length; i++) {
            SneakPaths x = Checks.told(nets[i]);
            for (int k = 0; k < 4; k++) {
                x.cures(0, 0, k);
                due(nets[i] + " open of " + k, x.load(0, 1), fed[i] & ON[k]);
                x.cures(0, 1, k);
                due(nets[i] + " closed of " + k, x.load(0, 1), fed[i] & ~ON[k]);
            }
            x.cures(0, 4, 0);
            due(nets[i] + " none", x.load(0, 1), fed[i]);
        }
    }

    private void oneWayCures() {
        checks.sentence("2 FORWARD, 3 BACKWARD (it is a way just from its first NODE to its second, just back)");
        String[] forth = {"o0 1 0;l1;", "c0 1 0;l1;", "w0 1;l1;", "d0 1;l1;"};
        String[] back = {"o1 0 0;l1;", "c1 0 0;l1;", "w1 0;l1;", "d1 0;l1;"};
        int[] fed = {ON[0], ALL - ON[0], ALL, ALL};
        for (int i = 0; i < 4; i++) {
            SneakPaths x = Checks.told(forth[i]);
            x.cures(0, 2, 0);
            due(forth[i] + " forward", x.load(0, 1), fed[i]);
            x.cures(0, 3, 0);
            due(forth[i] + " backward", x.load(0, 1), 0);
            due(forth[i] + " backward: paths", x.load(0, 5), 0);
            SneakPaths y = Checks.told(back[i]);
            y.cures(0, 2, 0);
            due(back[i] + " forward", y.load(0, 1), 0);
            y.cures(0, 3, 0);
            // A diode cured backward is a way neither forth nor back.
            due(back[i] + " backward", y.load(0, 1), i == 3 ? 0 : fed[i]);
        }
    }

    private void sticking() {
        checks.sentence("It STICKS open (it is never shut), or shut (it is a way both ways always), or does not (at first).");
        String[] nets = {"o0 1 0;l1;", "o1 0 0;l1;", "c0 1 0;l1;", "w1 0;l1;", "d0 1;l1;", "d1 0;l1;"};
        int[][] cures = {{4, 0}, {0, 3}, {1, 3}, {2, 0}, {3, 0}};
        for (String net : nets) {
            for (int[] cure : cures) {
                SneakPaths x = Checks.told(net);
                due("at first", x.contact(0, 6), 0);
                x.cures(0, cure[0], cure[1]);
                int before = x.load(0, 1);
                int paths = x.load(0, 5);
                String what = net + " cure " + cure[0];
                x.sticks(0, 1);
                due(what + " open", x.load(0, 1), 0);
                due(what + " open: paths", x.load(0, 5), 0);
                x.sticks(0, 2);
                due(what + " shut", x.load(0, 1), ALL);
                due(what + " shut: paths", x.load(0, 5), 1);
                due(what + " shut: of the path", x.path(0, 0, 2), ALL);
                x.sticks(0, 0);
                due(what + " not", x.load(0, 1), before);
                due(what + " not: paths", x.load(0, 5), paths);
            }
        }
    }

    private void fed() {
        checks.sentence("0 is LIVE.");
        due("from 0", Checks.told("w0 2;l2;").load(0, 1), ALL);
        due("from no other", Checks.told("w1 2;l2;").load(0, 1), 0);
        checks.sentence("FED: a LOAD in a STATE, if ways of CONTACTS that are shut lead from 0 to its NODE.");
        due("no contacts", Checks.told("n2;l1;").load(0, 1), 0);
        due("none from 0", Checks.told("n4;w1 2;w2 3;l3;").load(0, 1), 0);
        due("far, the contacts in order", Checks.told("n7;w0 1;w1 2;w2 3;w3 4;w4 5;w5 6;l6;").load(0, 1), ALL);
        due("far, the contacts back", Checks.told("n7;w5 6;w4 5;w3 4;w2 3;w1 2;w0 1;l6;").load(0, 1), ALL);
        due("far, the ends back too", Checks.told("n7;w6 5;w5 4;w4 3;w3 2;w2 1;w1 0;l6;").load(0, 1), ALL);
        due("a diode amid turns it off", Checks.told("n4;w0 1;d2 1;w2 3;l3;").load(0, 1), 0);
        due("over another load's node", Checks.told("w0 1;w1 2;l1;l2;").load(1, 1), ALL);
        due("never both shut", Checks.told("o0 1 3;c1 2 3;l2;").load(0, 1), 0);
        due("one or the other", Checks.told("o0 1 3;c0 1 3;l1;").load(0, 1), ALL);
    }

    private void wishedSneaksMissing() {
        checks.sentence("WISHED: STATES (16 bits) of each LOAD: at first those in which it is FED.");
        SneakPaths x = Checks.told("n4;w0 1;o0 2 3;l1;l2;l3;");
        int[] fed = {ALL, ON[3], 0};
        for (int l = 0; l < 3; l++) {
            due("wished at first", x.load(l, 2), fed[l]);
            due("sneaks at first", x.load(l, 3), 0);
            due("missing at first", x.load(l, 4), 0);
        }
        checks.sentence("SNEAKS: STATES in which it is FED, not WISHED; MISSING: WISHED, not FED.");
        int[] wishes = {0, ALL, 1, 0x8000, ON[0], ALL - ON[3]};
        for (int l = 0; l < 3; l++) {
            for (int wish : wishes) {
                x.wishes(l, wish);
                due("fed", x.load(l, 1), fed[l]);
                due("sneaks", x.load(l, 3), fed[l] & ~wish);
                due("missing", x.load(l, 4), wish & ~fed[l]);
            }
        }
        SneakPaths y = Checks.told("w0 1;l1;");
        y.sticks(0, 1);
        due("wished is not as fed later", y.load(0, 2), ALL);
        due("missing then", y.load(0, 4), ALL);
    }

    private void counts() {
        checks.sentence("0 NODES, 1 CONTACTS, 2 LOADS, 3 how many LOADS SNEAK in some STATE, 4 how many are MISSING in some");
        SneakPaths x = Checks.told("n7;" + "o0 1 0;".repeat(5) + "o0 2 1;w0 3;w0 3;w0 3;l1;l2;l3;");
        due("most nodes", x.count(0), 7);
        due("most contacts", x.count(1), 9);
        due("most loads", x.count(2), 3);
        due("fewest nodes", Checks.told("n2;").count(0), 2);
        int[] oneLess = {0xAAA8, 0x4CCC, 0x7FFF};
        for (int l = 0; l < 3; l++) {
            due("sneak", x.count(3), l);
            x.wishes(l, oneLess[l]);
        }
        due("all sneak, each in one state", x.count(3), 3);
        due("none is missing", x.count(4), 0);
        for (int l = 0; l < 2; l++) {
            x.wishes(l, x.load(l, 1) | 1);
            due("missing", x.count(4), l + 1);
            due("sneak", x.count(3), 2 - l);
        }
        x.wishes(0, 1);
        due("one both sneaks and is missing: sneak", x.count(3), 2);
        due("one both sneaks and is missing: missing", x.count(4), 2);
        for (int c = 6; c < 9; c++) {
            x.sticks(c, 1);
        }
        due("the third is missing now", x.count(4), 3);
        due("and does not sneak", x.count(3), 1);
        checks.sentence("5 SEEN, 6 letters of THE TEXT, 7 how many may be UNDONE. BAD.");
        due("known", x.count(7), 9);
        for (int i = 0; i < 6; i++) {
            due("seen", x.count(5), i);
            x.sees(0, 0, 0);
        }
        due("seen, all", x.count(5), 6);
        for (int i = 0; i < 100; i++) {
            due("letters", x.count(6), i);
            x.type('x');
        }
        due("letters, all", x.count(6), 100);
        due("count(-1)", x.count(-1), BAD);
        due("count(8)", x.count(8), BAD);
        for (int wild : WILD) {
            due("count(" + wild + ")", x.count(wild), BAD);
        }
    }

    private void lastCall() {
        checks.sentence("An object is used for at most 512 calls after it has been made");
        SneakPaths x = Checks.told("w0 1;l1;");
        for (int call = 10; call <= 511; call++) {
            due("call " + call, x.wishes(0, call), call == 10 ? ALL : call - 1);
        }
        due("the 512th", x.load(0, 2), 511);
    }
}
