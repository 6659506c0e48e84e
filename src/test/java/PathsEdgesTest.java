/** The edges of promises 11 to 16: path, shortest, parting, enough, flash, odds. */
public final class PathsEdgesTest {
    private static final int BAD = SneakPaths.BAD, NONE = SneakPaths.NONE;
    private static final int ALL = 65535;
    private static final int S0 = 0xAAAA, S1 = 0xCCCC, S2 = 0xF0F0, S3 = 0xFF00;
    /** Fed in state 6 alone. */
    private static final String SIX = "n5;c0 1 0;o1 2 1;o2 3 2;c3 4 3;l4;";
    private static final String NINE = "w0 1;".repeat(9) + "l1;";
    private static final String LONGEST = "n7;w6 5;w5 4;w4 3;w3 2;w2 1;w1 0;l6;";
    private static final int[] WILD = {Integer.MIN_VALUE, -65536, -9, -2, 17, 32, 64, 256, 65536, Integer.MAX_VALUE};

    private final Checks checks = new Checks();

    public static void main(String[] args) {
        PathsEdgesTest t = new PathsEdgesTest();
        t.noNodeTwice();
        t.inSomeStateOrInNone();
        t.order();
        t.shut();
        t.pathAsked();
        t.shortest();
        t.shortestAsked();
        t.parting();
        t.partingAsked();
        t.enoughSneaks();
        t.enoughMissing();
        t.enoughOfContactsWithoutCure();
        t.enoughAsked();
        t.flash();
        t.flashAsked();
        t.odds();
        t.oddsInLeastTerms();
        t.oddsAsked();
        t.checks.end("PathsEdgesTest");
    }

    private void due(String what, long got, long want) {
        checks.due(what, got, want);
    }

    /** The CONTACTS (bits) of all paths of a load, in their order, and that there are no more. */
    private void pathsDue(SneakPaths x, int l, int... bits) {
        due("how many paths", x.load(l, 5), bits.length);
        for (int k = 0; k < bits.length; k++) {
            due("path " + k + " of load " + l, x.path(l, k, 0), bits[k]);
            due("its contacts", x.path(l, k, 1), Integer.bitCount(bits[k]));
        }
        for (int what = 0; what < 3; what++) {
            due("no path " + bits.length + ", " + what, x.path(l, bits.length, what), NONE);
        }
    }

    private void noNodeTwice() {
        checks.sentence("CONTACTS that lead from 0 to it, no NODE twice");
        SneakPaths ring = Checks.told("w0 1;w1 2;w2 0;l1;l2;");
        pathsDue(ring, 0, 0b001, 0b110);
        pathsDue(ring, 1, 0b011, 0b100);
        SneakPaths tail = Checks.told("w0 1;w1 2;w2 1;w2 0;l1;");
        pathsDue(tail, 0, 0b0001, 0b1010, 0b1100);
        pathsDue(Checks.told("w0 1;w0 1;w1 0;l1;"), 0, 0b001, 0b010, 0b100);
        pathsDue(Checks.told("n2;l1;"), 0);
        pathsDue(Checks.told("w1 2;l2;"), 0);
        pathsDue(Checks.told(LONGEST), 0, 0b111111);
    }

    private void inSomeStateOrInNone() {
        checks.sentence("as they could be ways in some STATE, or in none (those that stick open are no ways)");
        SneakPaths x = Checks.told("o0 1 0;c1 2 0;l2;");
        pathsDue(x, 0, 0b11);
        due("never shut", x.path(0, 0, 2), 0);
        SneakPaths y = Checks.told("o0 1 3;w0 1;l1;");
        y.cures(0, 1, 3);
        pathsDue(y, 0, 0b01, 0b10);
        due("never shut by its cure", y.path(0, 0, 2), 0);
        y.sticks(0, 1);
        pathsDue(y, 0, 0b10);
        y.sticks(1, 1);
        pathsDue(y, 0);
        y.sticks(0, 2);
        pathsDue(y, 0, 0b01);
        due("stuck shut, always", y.path(0, 0, 2), ALL);
        y.sticks(0, 0);
        y.sticks(1, 0);
        y.cures(1, 3, 0);
        pathsDue(y, 0, 0b01);
    }

    private void order() {
        checks.sentence("PATHS in order: by the first CONTACT, the lower first, then the second");
        pathsDue(Checks.told("n4;w0 1;w1 2;w2 3;w0 3;w1 3;l3;"), 0, 0b00111, 0b10001, 0b01000);
        pathsDue(Checks.told("n4;w2 3;w0 2;w0 1;w1 3;w1 2;l3;"), 0, 0b00011, 0b11010, 0b01100, 0b10101);
        checks.sentence("(one that is the beginning of another one can not be)");
        pathsDue(Checks.told("w0 1;w1 2;w2 0;l1;"), 0, 0b001, 0b110);
        pathsDue(Checks.told("w0 1;w1 2;w1 2;l1;l2;"), 0, 0b001);
        checks.sentence("the lower first, then the second ..;");
        int[] bits = new int[27];
        for (int k = 0; k < 27; k++) {
            bits[k] = 1 << k / 9 | 8 << k / 3 % 3 | 64 << k % 3;
        }
        pathsDue(Checks.told("n4;w0 1;w0 1;w0 1;w1 2;w1 2;w1 2;w2 3;w2 3;w2 3;l3;"), 0, bits);
    }

    private void shut() {
        checks.sentence("SHUT of a PATH: STATES in which all its CONTACTS are shut.");
        due("state 6 alone", Checks.told(SIX).path(0, 0, 2), 0x40);
        due("state 15 alone", Checks.told("n5;o0 1 0;o1 2 1;o2 3 2;o3 4 3;l4;").path(0, 0, 2), 0x8000);
        due("all states", Checks.told(LONGEST).path(0, 0, 2), ALL);
        due("none", Checks.told("o0 1 0;c1 2 0;l2;").path(0, 0, 2), 0);
        SneakPaths x = Checks.told("o0 1 0;l1;");
        x.cures(0, 1, 3);
        due("by its cure too", x.path(0, 0, 2), S0 & ~S3);
    }

    private void pathAsked() {
        checks.sentence("Of the k-th PATH of a LOAD (0 on): 0 its CONTACTS (bits), 1 how many, 2 SHUT (bits); NONE: not so many. BAD.");
        SneakPaths x = Checks.told("w0 1;w0 1;l1;");
        for (int what = 0; what < 3; what++) {
            due("the last", x.path(0, 1, what), new int[] {2, 1, ALL}[what]);
            due("not so many", x.path(0, 2, what), NONE);
            due("by far not", x.path(0, Integer.MAX_VALUE, what), NONE);
            due("k too small", x.path(0, -1, what), BAD);
            due("k that is NONE", x.path(0, NONE, what), BAD);
            due("k by far too small", x.path(0, Integer.MIN_VALUE, what), BAD);
            due("load too small", x.path(-1, 0, what), BAD);
            due("load too large", x.path(1, 0, what), BAD);
            due("no load, not so many", x.path(1, 9, what), BAD);
        }
        due("what too small", x.path(0, 0, -1), BAD);
        due("what too large", x.path(0, 0, 3), BAD);
        due("BAD ahead of NONE", x.path(0, 2, 3), BAD);
        for (int wild : WILD) {
            due("path(" + wild + ", 0, 0)", x.path(wild, 0, 0), BAD);
            due("path(0, 0, " + wild + ")", x.path(0, 0, wild), BAD);
        }
    }

    private void shortestDue(SneakPaths x, int state, int... trail) {
        due("how many in " + state, x.shortest(0, state, -1), trail.length == 0 ? NONE : trail.length);
        for (int k = 0; k < trail.length; k++) {
            due("contact " + k + " in " + state, x.shortest(0, state, k), trail[k]);
        }
        due("no more in " + state, x.shortest(0, state, trail.length), NONE);
        due("by far no more in " + state, x.shortest(0, state, Integer.MAX_VALUE), NONE);
    }

    private void shortest() {
        checks.sentence("the PATH of fewest CONTACTS of those shut then, of several the first");
        SneakPaths x = Checks.told("n4;w0 1;w1 2;w2 3;o1 3 1;c0 2 2;o0 3 3;l3;");
        // Paths: 0 1 2; 0 3 (switch 1); 4 1 3 (not 2, and 1); 4 2 (not 2); 5 (switch 3).
        shortestDue(x, 4, 0, 1, 2);
        shortestDue(x, 6, 0, 3);
        shortestDue(x, 0, 4, 2);
        shortestDue(x, 2, 0, 3);
        shortestDue(x, 15, 5);
        x.sticks(2, 1);
        shortestDue(x, 4);
        shortestDue(x, 0);
        SneakPaths two = Checks.told("n4;w0 2;w0 1;w1 3;w2 3;l3;");
        shortestDue(two, 0, 0, 3);
        two.sticks(0, 1);
        shortestDue(two, 0, 1, 2);
        shortestDue(Checks.told(LONGEST), 15, 5, 4, 3, 2, 1, 0);
        shortestDue(Checks.told("n2;l1;"), 0);
        shortestDue(Checks.told(NINE), 0, 0);
    }

    private void shortestAsked() {
        checks.sentence("SHORTEST: how many CONTACTS (k = -1), the k-th of them; NONE. BAD.");
        SneakPaths x = Checks.told("o0 1 3;l1;");
        due("in state 15", x.shortest(0, 15, -1), 1);
        due("in state 0", x.shortest(0, 0, -1), NONE);
        due("k too small", x.shortest(0, 15, -2), BAD);
        due("k by far too small", x.shortest(0, 15, Integer.MIN_VALUE), BAD);
        due("k too small where it is not fed", x.shortest(0, 0, -2), BAD);
        due("state too small", x.shortest(0, -1, -1), BAD);
        due("state too large", x.shortest(0, 16, -1), BAD);
        due("load too small", x.shortest(-1, 15, -1), BAD);
        due("load too large", x.shortest(1, 15, -1), BAD);
        due("BAD ahead of NONE", x.shortest(0, 16, 9), BAD);
        for (int wild : WILD) {
            due("shortest(" + wild + ", 0, 0)", x.shortest(wild, 0, 0), BAD);
            due("shortest(0, " + wild + ", 0)", x.shortest(0, wild, 0), BAD);
        }
    }

    private void parting() {
        checks.sentence("the fewest CONTACTS that must not be shut so that it is not FED: which (of several such sets the least number, bits)");
        due("one of a row", Checks.told(LONGEST).parting(0, 0), 1);
        due("fewest ahead of the least number", Checks.told("w0 1;w0 1;w1 2;l2;").parting(0, 0), 4);
        due("of four pairs the least number", Checks.told("n4;w3 2;w3 1;w0 1;w0 2;l3;").parting(0, 0), 3);
        due("0 and 2 ahead of 1 and 2", Checks.told("n4;w0 1;w1 3;w0 2;w2 3;l3;").parting(0, 0), 5);
        due("all nine", Checks.told(NINE).parting(0, 15), 511);
        SneakPaths x = Checks.told("o0 1 0;o0 1 1;l1;");
        due("one is shut", x.parting(0, 1), 1);
        due("the other is", x.parting(0, 2), 2);
        due("both are", x.parting(0, 3), 3);
        due("a diode that leads back is none", Checks.told("d1 0;w0 1;l1;").parting(0, 0), 2);
        checks.sentence("0: it is not FED.");
        due("in this state", x.parting(0, 0), 0);
        due("no contacts", Checks.told("n2;l1;").parting(0, 0), 0);
        x.sticks(0, 1);
        due("it sticks open", x.parting(0, 1), 0);
        x.sticks(0, 2);
        due("it sticks shut", x.parting(0, 0), 1);
    }

    private void partingAsked() {
        checks.sentence("PARTING (bits). BAD.");
        SneakPaths x = Checks.told("o0 1 3;l1;");
        due("in state 15", x.parting(0, 15), 1);
        due("in state 0", x.parting(0, 0), 0);
        due("state too small", x.parting(0, -1), BAD);
        due("state too large", x.parting(0, 16), BAD);
        due("load too small", x.parting(-1, 0), BAD);
        due("load too large", x.parting(1, 0), BAD);
        for (int wild : WILD) {
            due("parting(" + wild + ", 0)", x.parting(wild, 0), BAD);
            due("parting(0, " + wild + ")", x.parting(0, wild), BAD);
        }
    }

    private void enoughDue(SneakPaths x, int many, int first) {
        due("how many", x.enough(0), many);
        due("the first", x.enough(1), first);
    }

    private void enoughSneaks() {
        checks.sentence("by which no LOAD SNEAKS");
        SneakPaths x = Checks.told("w0 1;w0 2;l1;l2;");
        x.wishes(0, 0);
        enoughDue(x, 1, 30);
        x.wishes(1, 0);
        enoughDue(x, 0, NONE);
        x.sticks(0, 1);
        enoughDue(x, 1, 130);
        SneakPaths three = Checks.told("n4;w0 1;w0 2;w0 3;l1;l2;l3;");
        three.wishes(2, 0);
        enoughDue(three, 1, 230);
        three.wishes(1, 0);
        enoughDue(three, 0, NONE);
        // One state in which it sneaks is too much, if no one cure takes it alone.
        SneakPaths y = Checks.told("w0 1;l1;");
        y.wishes(0, 0x7FFF);
        enoughDue(y, 0, NONE);
        y.wishes(0, S0 & S1);
        enoughDue(y, 0, NONE);
        y.wishes(0, ALL);
        enoughDue(y, 1, 20);
    }

    private void enoughMissing() {
        checks.sentence("none is MISSING where it is not now");
        SneakPaths x = Checks.told("w0 1;w1 2;l1;l2;");
        x.wishes(1, 0);
        // Load 2's contact backward alone: contact 0 feeds load 1 as well.
        enoughDue(x, 1, 130);
        x.wishes(0, 0);
        // Both are unwished now: contact 0 backward parts both.
        enoughDue(x, 1, 30);
        SneakPaths three = Checks.told("n4;w0 1;w1 2;w2 3;l1;l2;l3;");
        three.wishes(1, 0x0F0F);
        // Closed of 2 for load 1 would leave load 2 missing, which is not now.
        enoughDue(three, 0, NONE);
        three.sticks(2, 1);
        enoughDue(three, 1, 112);
        SneakPaths y = Checks.told("o0 1 0;w0 2;l1;l2;");
        y.wishes(0, ALL);
        y.wishes(1, S1);
        // Load 1 is missing where switch 0 is 0, and may stay so.
        enoughDue(y, 1, 101);
        y.wishes(1, ALL);
        // No one sneaks: by open 0 and forward contact 0 loses nothing; contact 1 by forward.
        enoughDue(y, 3, 0);
        y.sticks(0, 1);
        // It is missing everywhere: any cure of contact 0 changes nothing.
        enoughDue(y, 11, 0);
    }

    private void enoughOfContactsWithoutCure() {
        checks.sentence("one CURE more, of a CONTACT that has none");
        SneakPaths x = Checks.told("w0 1;l1;");
        x.wishes(0, S1);
        enoughDue(x, 1, 1);
        x.cures(0, 2, 0);
        enoughDue(x, 0, NONE);
        x.cures(0, 4, 0);
        enoughDue(x, 1, 1);
        x.cures(0, 0, 1);
        enoughDue(x, 0, NONE);
        SneakPaths two = Checks.told("w0 1;w1 2;l2;");
        two.wishes(0, S1 & S3);
        enoughDue(two, 0, NONE);
        two.cures(0, 0, 3);
        enoughDue(two, 1, 101);
    }

    private void enoughAsked() {
        checks.sentence("CURE that is ENOUGH: how many (what = 0), the first (1; NONE). BAD.");
        SneakPaths x = Checks.told("w0 1;l1;");
        due("what too small", x.enough(-1), BAD);
        due("what too large", x.enough(2), BAD);
        for (int wild : WILD) {
            due("enough(" + wild + ")", x.enough(wild), BAD);
        }
        enoughDue(Checks.told("n2;l1;"), 0, NONE);
        checks.sentence("the first: 100 times the CONTACT, 10 times the kind, and the SWITCH; NONE.");
        SneakPaths last = Checks.told("w1 2;".repeat(8) + "w0 1;l1;");
        last.wishes(0, 0);
        enoughDue(last, 1, 830);
        last.wishes(0, ALL & ~S3);
        enoughDue(last, 1, 813);
        last.wishes(0, S3);
        enoughDue(last, 1, 803);
        last.wishes(0, S0);
        enoughDue(last, 1, 800);
        last.wishes(0, ALL & ~S0);
        enoughDue(last, 1, 810);
        checks.sentence("by CONTACT, kind 0 to 3, SWITCH (0, for 2, 3), how many");
        SneakPaths most = Checks.told(NINE);
        enoughDue(most, 90, 0);
        most.sticks(0, 2);
        most.wishes(0, 0);
        enoughDue(most, 0, NONE);
        enoughDue(Checks.told("w0 1;"), 10, 0);
        // Kinds from the lowest on: closed and backward are enough, and closed is the first.
        SneakPaths none = Checks.told("o0 1 0;l1;");
        none.wishes(0, 0);
        enoughDue(none, 2, 10);
    }

    private void flash() {
        checks.sentence("switches that are unlike in them go over one by one, in any order");
        SneakPaths x = Checks.told(SIX);
        int[][] through = {{0, 15}, {15, 0}, {2, 4}, {4, 2}, {0, 7}, {7, 0}, {2, 7}, {14, 4}, {8, 7}, {3, 4}};
        for (int[] f : through) {
            due("from " + f[0] + " to " + f[1], x.flash(0, f[0], f[1]), 1);
        }
        int[][] past = {{0, 9}, {9, 7}, {3, 5}, {5, 3}, {0, 2}, {8, 13}, {1, 8}, {15, 11}, {2, 3}};
        for (int[] f : past) {
            due("from " + f[0] + " to " + f[1], x.flash(0, f[0], f[1]), 0);
        }
        checks.sentence("whether in some STATE between it is FED, though it is in neither of both");
        SneakPaths least = Checks.told("n5;c0 1 0;c1 2 1;c2 3 2;c3 4 3;l4;");
        due("state 0 between", least.flash(0, 1, 2), 1);
        due("state 0 not between", least.flash(0, 5, 6), 0);
        SneakPaths greatest = Checks.told("n5;o0 1 0;o1 2 1;o2 3 2;o3 4 3;l4;");
        due("state 15 between", greatest.flash(0, 7, 11), 1);
        due("state 15 not between", greatest.flash(0, 3, 5), 0);
        due("fed at the end", x.flash(0, 0, 6), 0);
        due("fed at the start", x.flash(0, 6, 0), 0);
        due("fed at both", x.flash(0, 6, 6), 0);
        due("none moves", x.flash(0, 5, 5), 0);
        due("one moves", x.flash(0, 15, 7), 0);
        SneakPaths most = Checks.told("o0 1 0;o0 1 1;o0 1 2;o0 1 3;l1;");
        due("fed but in state 0", most.flash(0, 0, 0), 0);
        due("fed between and at the end", most.flash(0, 0, 15), 0);
        SneakPaths xor = Checks.told("n4;o0 1 0;c1 3 3;c0 2 0;o2 3 3;l3;");
        due("two are unlike, it is fed between", xor.flash(0, 0, 9), 1);
        due("and back", xor.flash(0, 9, 0), 1);
        due("one is unlike, it is fed at the end", xor.flash(0, 0, 8), 0);
    }

    private void flashAsked() {
        checks.sentence("FLASH (1, 0). BAD.");
        SneakPaths x = Checks.told(SIX);
        due("the least states", x.flash(0, 0, 0), 0);
        due("the greatest states", x.flash(0, 15, 15), 0);
        due("from too small", x.flash(0, -1, 0), BAD);
        due("from too large", x.flash(0, 16, 0), BAD);
        due("to too small", x.flash(0, 0, -1), BAD);
        due("to too large", x.flash(0, 0, 16), BAD);
        due("load too small", x.flash(-1, 0, 15), BAD);
        due("load too large", x.flash(1, 0, 15), BAD);
        for (int wild : WILD) {
            due("flash(" + wild + ", 0, 15)", x.flash(wild, 0, 15), BAD);
            due("flash(0, " + wild + ", 15)", x.flash(0, wild, 15), BAD);
            due("flash(0, 0, " + wild + ")", x.flash(0, 0, wild), BAD);
        }
    }

    private void oddsDue(SneakPaths x, int tenths, int state, int upper, int lower) {
        due("odds by " + tenths + " in " + state + ", upper", x.odds(tenths, 0, state, 0), upper);
        due("odds by " + tenths + " in " + state + ", lower", x.odds(tenths, 0, state, 1), lower);
    }

    private void odds() {
        checks.sentence("each CONTACT sticks open by x of 10, for itself (others as they are): that it is FED: a fraction.");
        SneakPaths x = Checks.told("o0 1 3;w0 1;w1 2;l2;");
        oddsDue(x, 0, 0, 1, 1);
        oddsDue(x, 1, 0, 81, 100);
        oddsDue(x, 1, 8, 891, 1000);
        oddsDue(x, 9, 0, 1, 100);
        oddsDue(x, 10, 8, 0, 1);
        x.sticks(1, 1);
        oddsDue(x, 1, 0, 0, 1);
        oddsDue(x, 1, 8, 81, 100);
        x.sticks(0, 2);
        oddsDue(x, 1, 0, 81, 100);
        oddsDue(x, 10, 0, 0, 1);
        // Two ways that share a contact are not for themselves.
        oddsDue(Checks.told("n4;w0 1;w1 2;w1 2;w2 3;l3;"), 5, 0, 3, 16);
    }

    private void oddsInLeastTerms() {
        checks.sentence("upper (what = 0), lower number (1), in least terms");
        SneakPaths nine = Checks.told(NINE);
        oddsDue(nine, 0, 0, 1, 1);
        oddsDue(nine, 1, 0, 999999999, 1000000000);
        oddsDue(nine, 5, 15, 511, 512);
        oddsDue(nine, 8, 0, 1690981, 1953125);
        oddsDue(nine, 9, 15, 612579511, 1000000000);
        oddsDue(nine, 10, 0, 0, 1);
        SneakPaths row = Checks.told(LONGEST);
        oddsDue(row, 0, 0, 1, 1);
        oddsDue(row, 1, 0, 531441, 1000000);
        oddsDue(row, 5, 0, 1, 64);
        oddsDue(row, 8, 0, 1, 15625);
        oddsDue(row, 9, 0, 1, 1000000);
        oddsDue(row, 10, 0, 0, 1);
        SneakPaths never = Checks.told("n2;l1;");
        oddsDue(never, 0, 0, 0, 1);
        oddsDue(never, 5, 15, 0, 1);
    }

    private void oddsAsked() {
        checks.sentence("ODDS by x (0 .. 10) of a LOAD in a STATE");
        SneakPaths x = Checks.told("w0 1;l1;");
        for (int tenths = 0; tenths <= 10; tenths++) {
            int shared = tenths == 0 || tenths == 10 ? 10 : tenths == 5 ? 5 : tenths % 2 == 0 ? 2 : 1;
            oddsDue(x, tenths, 15, (10 - tenths) / shared, 10 / shared);
        }
        for (int what = 0; what < 2; what++) {
            due("x too small", x.odds(-1, 0, 0, what), BAD);
            due("x too large", x.odds(11, 0, 0, what), BAD);
            due("load too small", x.odds(0, -1, 0, what), BAD);
            due("load too large", x.odds(0, 1, 0, what), BAD);
            due("state too small", x.odds(0, 0, -1, what), BAD);
            due("state too large", x.odds(0, 0, 16, what), BAD);
        }
        due("what too small", x.odds(0, 0, 0, -1), BAD);
        due("what too large", x.odds(0, 0, 0, 2), BAD);
        for (int wild : WILD) {
            due("odds(" + wild + ", 0, 0, 0)", x.odds(wild, 0, 0, 0), BAD);
            due("odds(0, " + wild + ", 0, 0)", x.odds(0, wild, 0, 0), BAD);
            due("odds(0, 0, " + wild + ", 0)", x.odds(0, 0, wild, 0), BAD);
            due("odds(0, 0, 0, " + wild + ")", x.odds(0, 0, 0, wild), BAD);
        }
    }
}
