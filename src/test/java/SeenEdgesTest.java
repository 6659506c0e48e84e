/** The edges of promises 17 to 19: sees, forget, unseen. */
public final class SeenEdgesTest {
    private static final int BAD = SneakPaths.BAD, FULL = SneakPaths.FULL;
    private static final String NINE = "w0 1;".repeat(9) + "l1;";
    private static final int[] WILD = {Integer.MIN_VALUE, -65536, -9, -2, 17, 32, 64, 256, 65536, Integer.MAX_VALUE};

    private final Checks checks = new Checks();

    public static void main(String[] args) {
        SeenEdgesTest t = new SeenEdgesTest();
        t.sixAtMost();
        t.sees();
        t.forget();
        t.unseen();
        t.justOne();
        t.eachSightTells();
        t.asThingsAreNow();
        t.unseenAsked();
        t.checks.end("SeenEdgesTest");
    }

    private void due(String what, long got, long want) {
        checks.due(what, got, want);
    }

    private void sixAtMost() {
        checks.sentence("SEEN (6 at most)");
        SneakPaths x = Checks.told("o0 1 0;l1;");
        for (int i = 1; i <= 6; i++) {
            due("sees " + i, x.sees(0, i, 1), i);
        }
        due("a seventh", x.sees(0, 7, 1), FULL);
        due("again", x.sees(0, 1, 1), FULL);
        due("six there are", x.count(5), 6);
        x.forget();
        due("room again", x.sees(0, 1, 1), 1);
    }

    private void sees() {
        checks.sentence("SEEN: how much there is. BAD; FULL.");
        SneakPaths x = Checks.told("n4;w0 1;l1;l2;l3;");
        due("the least", x.sees(0, 0, 0), 1);
        due("the greatest", x.sees(2, 15, 1), 2);
        due("the same again", x.sees(2, 15, 1), 3);
        due("the contrary", x.sees(2, 15, 0), 4);
        due("load too small", x.sees(-1, 0, 0), BAD);
        due("load too large", x.sees(3, 0, 0), BAD);
        due("state too small", x.sees(0, -1, 0), BAD);
        due("state too large", x.sees(0, 16, 0), BAD);
        due("fed too small", x.sees(0, 0, -1), BAD);
        due("fed too large", x.sees(0, 0, 2), BAD);
        for (int wild : WILD) {
            due("sees(" + wild + ", 0, 0)", x.sees(wild, 0, 0), BAD);
            due("sees(0, " + wild + ", 0)", x.sees(0, wild, 0), BAD);
            due("sees(0, 0, " + wild + ")", x.sees(0, 0, wild), BAD);
        }
        due("nothing of that is seen", x.count(5), 4);
        x.sees(0, 0, 0);
        x.sees(0, 0, 0);
        due("BAD ahead of FULL: load", x.sees(3, 0, 0), BAD);
        due("BAD ahead of FULL: state", x.sees(0, 16, 0), BAD);
        due("BAD ahead of FULL: fed", x.sees(0, 0, 2), BAD);
        due("FULL", x.sees(0, 0, 0), FULL);
    }

    private void forget() {
        checks.sentence("Nothing is SEEN: how much was.");
        SneakPaths x = Checks.told("w0 1;l1;");
        due("nothing was", x.forget(), 0);
        x.sees(0, 0, 0);
        due("one", x.forget(), 1);
        due("none now", x.count(5), 0);
        due("none again", x.forget(), 0);
        due("any could stick shut again", x.unseen(2), 1);
        for (int i = 0; i < 6; i++) {
            x.sees(0, 0, 1);
        }
        due("six", x.forget(), 6);
        due("any could stick open again", x.unseen(1), 1);
    }

    private void unseen() {
        checks.sentence("UNSEEN: CONTACTS (bits) that could stick open by what was SEEN; shut.");
        SneakPaths none = Checks.told("n2;l1;");
        due("no contacts: open", none.unseen(1), 0);
        due("no contacts: shut", none.unseen(2), 0);
        SneakPaths nine = Checks.told(NINE);
        due("nothing seen: open", nine.unseen(1), 511);
        due("nothing seen: shut", nine.unseen(2), 511);
        nine.sees(0, 0, 1);
        due("as ever: open", nine.unseen(1), 511);
        due("as ever: shut", nine.unseen(2), 511);
        nine.sees(0, 15, 0);
        due("no one alone: open", nine.unseen(1), 0);
        due("no one alone: shut", nine.unseen(2), 0);
        SneakPaths row = Checks.told("o0 1 0;o1 2 1;l2;");
        row.sees(0, 1, 1);
        due("fed with switch 0 alone: open", row.unseen(1), 0);
        due("fed with switch 0 alone: shut", row.unseen(2), 2);
        row.forget();
        row.sees(0, 3, 0);
        due("not fed with both: open", row.unseen(1), 3);
        due("not fed with both: shut", row.unseen(2), 0);
        SneakPaths last = Checks.told("w1 2;".repeat(8) + "o0 1 3;l1;");
        last.sees(0, 0, 1);
        due("the ninth, shut", last.unseen(2), 256);
        last.forget();
        last.sees(0, 15, 0);
        due("the ninth, open", last.unseen(1), 256);
        SneakPaths diode = Checks.told("d1 0;l1;");
        diode.sees(0, 0, 1);
        due("stuck shut a diode leads back", diode.unseen(2), 1);
    }

    private void justOne() {
        checks.sentence("one unknown CONTACT sticking open, or shut");
        SneakPaths row = Checks.told("o0 1 0;o1 2 1;l2;");
        row.sees(0, 0, 1);
        due("both would have to stick shut", row.unseen(2), 0);
        SneakPaths two = Checks.told("w0 1;w0 1;l1;");
        two.sees(0, 0, 0);
        due("both would have to stick open", two.unseen(1), 0);
        two.sticks(0, 1);
        due("one does: then the other", two.unseen(1), 2);
    }

    /** Six sights that agree but for one, wherever that is. */
    private void eachSightTells() {
        checks.sentence("a LOAD was FED in a STATE (1), or not (0)");
        for (int odd = 0; odd < 6; odd++) {
            SneakPaths x = Checks.told("o0 1 0;o0 2 1;l1;l2;");
            for (int i = 0; i < 6; i++) {
                if (i == odd) {
                    x.sees(1, 15, 0);
                } else {
                    x.sees(0, 15, 1);
                }
            }
            due("the odd one is " + odd + ": open", x.unseen(1), 2);
            due("the odd one is " + odd + ": shut", x.unseen(2), 0);
        }
        SneakPaths both = Checks.told("w0 1;l1;");
        both.sees(0, 3, 0);
        due("not fed", both.unseen(1), 1);
        both.sees(0, 3, 1);
        due("and fed: open", both.unseen(1), 0);
        due("and fed: shut", both.unseen(2), 0);
    }

    private void asThingsAreNow() {
        checks.sentence("(As things are NOW; nothing is changed.)");
        SneakPaths x = Checks.told("o0 1 0;w1 2;l2;");
        x.sees(0, 0, 1);
        due("contact 0 shut", x.unseen(2), 1);
        x.cures(1, 0, 3);
        due("cured, no one alone", x.unseen(2), 0);
        x.sticks(0, 2);
        due("contact 0 sticks shut: 1 alone", x.unseen(2), 2);
        x.sticks(0, 1);
        due("contact 0 sticks open: none", x.unseen(2), 0);
        due("sticks as before", x.contact(0, 6), 1);
        due("1 does not", x.contact(1, 6), 0);
        due("the cure is there", x.contact(1, 4), 0);
        due("three deeds", x.count(7), 3);
        x.undo();
        x.undo();
        x.undo();
        due("as at first", x.unseen(2), 1);
    }

    private void unseenAsked() {
        checks.sentence("UNSEEN (bits): sticking open (how = 1), shut (2). BAD.");
        SneakPaths x = Checks.told("w0 1;l1;");
        due("too small", x.unseen(0), BAD);
        due("too large", x.unseen(3), BAD);
        due("below 0", x.unseen(-1), BAD);
        for (int wild : WILD) {
            due("unseen(" + wild + ")", x.unseen(wild), BAD);
        }
        due("open", x.unseen(1), 1);
        due("shut", x.unseen(2), 1);
    }
}
