/** The edges of THE TEXT: promises 2 to 4 and what the terms say of TOKENS, ITEMS, FAULT. */
public final class TextEdgesTest {
    private static final int BAD = SneakPaths.BAD, STATE = SneakPaths.STATE, FULL = SneakPaths.FULL;
    private static final String NINE = "w0 1;".repeat(9);

    private final Checks checks = new Checks();

    public static void main(String[] args) {
        TextEdgesTest t = new TextEdgesTest();
        t.letters();
        t.hundredLetters();
        t.clearedText();
        t.nodesTold();
        t.nodesOfContactsAndLoads();
        t.switches();
        t.nineContacts();
        t.unlikeNodes();
        t.threeLoads();
        t.blanks();
        t.nodesFirstOfAll();
        t.itemsEnd();
        t.lettersThatStand();
        t.wrongTokens();
        t.numbers();
        t.firstFault();
        t.endsTooEarly();
        t.faultChangesNothing();
        t.toldAnew();
        t.checks.end("TextEdgesTest");
    }

    private void due(String what, long got, long want) {
        checks.due(what, got, want);
    }

    /** What net() answers for this text, on a new object. */
    private void netDue(String text, int want) {
        SneakPaths x = new SneakPaths();
        Checks.type(x, text);
        due("net of '" + text + "'", x.net(), want);
    }

    private void faultDue(String text, int place) {
        netDue(text, -10 - place);
    }

    private void letters() {
        checks.sentence("A letter (0 .. 255) comes to THE TEXT: how many it has. BAD; FULL.");
        SneakPaths x = new SneakPaths();
        due("the least letter", x.type(0), 1);
        due("the greatest letter", x.type(255), 2);
        int[] none = {-1, 256, -256, 'n' + 256, 'n' - 256, ' ' + 65536, Integer.MIN_VALUE, Integer.MAX_VALUE};
        for (int letter : none) {
            due("type(" + letter + ")", x.type(letter), BAD);
            due("letters behind it", x.count(6), 2);
        }
        due("the next one", x.type(' '), 3);
        SneakPaths full = filled(100);
        due("too many", full.type(' '), FULL);
        due("BAD ahead of FULL: too small", full.type(-1), BAD);
        due("BAD ahead of FULL: too large", full.type(256), BAD);
    }

    private static SneakPaths filled(int blanks) {
        SneakPaths x = new SneakPaths();
        Checks.type(x, " ".repeat(blanks));
        return x;
    }

    private void hundredLetters() {
        checks.sentence("They are a text (100 letters at most)");
        SneakPaths x = filled(98);
        due("the 99th", x.type(' '), 99);
        due("the 100th", x.type('l'), 100);
        due("the 101st", x.type('x'), FULL);
        due("it is refused again", x.type(';'), FULL);
        due("letters", x.count(6), 100);
        due("the text ends behind the 100th", x.net(), -110);
        due("all letters are there still", x.clear(), 100);
        due("there is room again", x.type('x'), 1);
        netDue(" ".repeat(100), 0);
        netDue(" ".repeat(95) + "w0 1;", 1);
        netDue("w" + " ".repeat(95) + "0 1;", 1);
        faultDue(" ".repeat(99) + "x", 99);
        faultDue("w" + " ".repeat(99), 100);
        faultDue("w0 1" + " ".repeat(95) + "1", 99);
        SneakPaths read = filled(100);
        read.net();
        due("room behind net", read.type(' '), 1);
    }

    private void clearedText() {
        checks.sentence("THE TEXT is empty: how many letters it had.");
        SneakPaths x = new SneakPaths();
        due("of a new object", x.clear(), 0);
        x.type('x');
        due("one letter", x.clear(), 1);
        due("again", x.clear(), 0);
        due("none are left for net", x.net(), 0);
        SneakPaths full = filled(100);
        due("a full one", full.clear(), 100);
        due("count", full.count(6), 0);
        due("and it takes letters", full.type('n'), 1);
    }

    private void nodesTold() {
        checks.sentence("7; 3 at first)");
        for (int digit = 0; digit <= 9; digit++) {
            if (digit < 2 || digit > 7) {
                faultDue("n" + digit + ";", 1);
            } else {
                netDue("n" + digit + ";", 1);
                due("nodes", Checks.told("n" + digit + ";").count(0), digit);
            }
        }
        due("at first", new SneakPaths().count(0), 3);
        due("none told", Checks.told("w0 1;").count(0), 3);
        netDue("w0 2;l2;", 2);
        faultDue("w0 3;", 3);
        faultDue("l3;", 1);
    }

    private void nodesOfContactsAndLoads() {
        checks.sentence("NODES 0 .. as many as are told less 1");
        for (int n = 2; n <= 7; n++) {
            String head = "n" + n + ";";
            for (int node = 0; node <= 9; node++) {
                for (String kind : new String[] {"o", "c", "w", "d"}) {
                    String tail = kind.equals("o") || kind.equals("c") ? " 0;" : ";";
                    int other = node == 0 ? 1 : 0;
                    String first = head + kind + node + " " + other + tail;
                    String second = head + kind + other + " " + node + tail;
                    netDue(first, node < n ? 2 : -14);
                    netDue(second, node < n ? 2 : -16);
                }
                netDue(head + "l" + node + ";", node > 0 && node < n ? 2 : -14);
            }
        }
    }

    private void switches() {
        checks.sentence("SWITCHES 0 to 3");
        for (int s = 0; s <= 9; s++) {
            netDue("o0 1 " + s + ";", s <= 3 ? 1 : -15);
            netDue("c0 1 " + s + ";", s <= 3 ? 1 : -15);
        }
        checks.sentence("a NUMBER beyond what it may be");
        faultDue("n8;", 1);
        faultDue("n1;", 1);
        faultDue("w3 0;", 1);
        faultDue("w0 3;", 3);
        faultDue("c0 1 4;", 5);
        faultDue("l3;", 1);
    }

    private void nineContacts() {
        checks.sentence("a tenth CONTACT");
        netDue(NINE, 9);
        due("contacts", Checks.told(NINE).count(1), 9);
        String[] kinds = {"o0 1 0;", "c0 1 0;", "w0 1;", "d0 1;"};
        for (String kind : kinds) {
            netDue(kind.repeat(9), 9);
            faultDue(NINE + kind, 45);
            faultDue(NINE + " " + kind.charAt(0), 46);
        }
        netDue(NINE + "l1;l2;", 11);
        faultDue(NINE + "l1;w0 1;", 48);
        netDue("n7;" + "o0 1 0;".repeat(9) + "l1;l2;l3;", 13);
    }

    private void unlikeNodes() {
        checks.sentence("V that is U");
        for (int node = 0; node < 7; node++) {
            faultDue("n7;o" + node + " " + node + " 0;", 6);
            faultDue("n7;c" + node + " " + node + " 0;", 6);
            faultDue("n7;w" + node + " " + node + ";", 6);
            faultDue("n7;d" + node + " " + node + ";", 6);
        }
        netDue("w0 1;w0 1;w1 0;", 3);
    }

    private void threeLoads() {
        checks.sentence("a fourth l");
        netDue("n7;l6;l5;l4;", 4);
        due("loads", Checks.told("n7;l6;l5;l4;").count(2), 3);
        faultDue("n7;l6;l5;l4;l3;", 12);
        faultDue("n7;l6;l5;l4;l", 12);
        faultDue("n7;l6;l5;l4;l4;", 12);
        netDue("n7;l6;l5;l4;w0 1;", 5);
        checks.sentence("a NODE of a LOAD already, or 0");
        faultDue("l0;", 1);
        faultDue("l1;l1;", 4);
        faultDue("l1;l2;l1;", 7);
        faultDue("l1;l2;l2;", 7);
        netDue("l2;l1;", 2);
        faultDue("n2;l1;l1;", 7);
    }

    private void blanks() {
        checks.sentence("blanks (32) between TOKENS");
        netDue("n2;w0 1;l1;", 3);
        netDue("n 2 ; w 0 1 ; l 1 ;", 3);
        netDue("   n2;w0   1   ;l1;   ", 3);
        faultDue("w01;", 1);
        faultDue("o0 12;", 3);
        int[] others = {0, 9, 10, 13, 31, 33, 160, 255};
        for (int other : others) {
            faultDue((char) other + "w0 1;", 0);
            faultDue("w" + (char) other + "0 1;", 1);
            faultDue("w0" + (char) other + "1;", 2);
            faultDue("w0 1" + (char) other + ";", 4);
            faultDue("w0 1;" + (char) other, 5);
        }
    }

    private void nodesFirstOfAll() {
        checks.sentence("n N (NODES; the first of all, if it is told)");
        netDue("l1;", 1);
        netDue(" n3;", 1);
        checks.sentence("n behind another ITEM");
        faultDue("n3;n3;", 3);
        faultDue("w0 1;n3;", 5);
        faultDue("o0 1 0;n3;", 7);
        faultDue("l1;n", 3);
        faultDue("n3;w0 1; n4;", 9);
    }

    private void itemsEnd() {
        checks.sentence("ITEMS, each ended by ;");
        faultDue(";", 0);
        faultDue("n3;;", 3);
        faultDue("n3 l1;", 3);
        faultDue("w0 1 w0 2;", 5);
        faultDue("l1 l2;", 3);
        faultDue("l1", 2);
        faultDue("n;", 1);
        faultDue("o;", 1);
        faultDue("o0;", 2);
        faultDue("o0 1;", 4);
        faultDue("w;", 1);
        faultDue("w0;", 2);
        faultDue("l;", 1);
    }

    /** Each of the 256 letters, at the start, behind w, behind a whole w 0 1. */
    private void lettersThatStand() {
        checks.sentence("TOKENS are the letters n, o, c, w, d, l, NUMBERS and ;");
        for (int letter = 0; letter <= 255; letter++) {
            String sign = String.valueOf((char) letter);
            boolean digit = letter >= '0' && letter <= '9';
            boolean opens = "nocwdl".contains(sign);
            netDue(sign, letter == ' ' ? 0 : opens ? -11 : -10);
            boolean node = digit && letter <= '2';
            netDue("w" + sign, node || letter == ' ' ? -12 : -11);
            // Behind the 1 a digit makes a NUMBER above 9 of it, and the 1 is its first letter.
            netDue("w0 1" + sign, letter == ';' ? 1 : letter == ' ' ? -15 : digit ? -13 : -14);
            boolean opensAgain = "ocwdl".contains(sign);
            netDue("w0 1;" + sign, letter == ' ' ? 1 : opensAgain ? -16 : -15);
        }
    }

    /** At each place of each item each token that is not due there. */
    private void wrongTokens() {
        checks.sentence("the place of the first letter of the first TOKEN that can't stand there");
        String[] tokens = {"n", "o", "c", "w", "d", "l", ";", "0", "1", "x", "10"};
        String[] items = {"n 3 ;", "o 0 1 2 ;", "c 0 1 2 ;", "w 0 1 ;", "d 0 1 ;", "l 1 ;"};
        for (String item : items) {
            String[] parts = item.split(" ");
            String head = parts[0];
            for (int i = 1; i < parts.length; i++) {
                boolean numberDue = i < parts.length - 1;
                for (String token : tokens) {
                    boolean fits = numberDue ? token.equals("0") || token.equals("1") : token.equals(";");
                    if (!fits) {
                        faultDue(head + "  " + token, head.length() + 2);
                    }
                }
                head = head + " " + parts[i];
            }
        }
    }

    private void numbers() {
        checks.sentence("a NUMBER above 9 or with a 0 ahead of others, that TOKEN's");
        // Those that would be 0, 1 or 2 in 32 or 64 bits are above 9 all the same.
        String[] wrong = {
            "10", "11", "12", "20", "99", "100", "00", "01", "02", "09", "000", "001", "4294967296", "4294967297",
            "4294967298", "18446744073709551616", "18446744073709551618", "2147483648", "1".repeat(80), "0".repeat(80),
        };
        for (String number : wrong) {
            faultDue("n" + number + ";", 1);
            faultDue("w" + number + " 0;", 1);
            faultDue("w0 " + number + ";", 3);
            faultDue("o0 1 " + number + ";", 5);
            faultDue("l " + number + ";", 2);
            faultDue(number, 0);
            faultDue("w0 1;" + number, 5);
            faultDue("w0 1 " + number, 5);
        }
        checks.sentence("of any other letter");
        faultDue("W0 1;", 0);
        faultDue("w-1 0;", 1);
        faultDue("w+1 0;", 1);
        faultDue("w0 1,", 4);
        faultDue("w0 1." , 4);
        faultDue("w0 1x;", 4);
        faultDue("w0x 1;", 2);
    }

    private void firstFault() {
        checks.sentence("the first TOKEN that can't stand there");
        faultDue("w0 0;x", 3);
        faultDue("w9 9;", 1);
        faultDue("x w0 0;", 0);
        faultDue("l1;l1;l0;", 4);
        faultDue("n9;n9;", 1);
        faultDue("w0 1;10;x", 5);
        faultDue("w0 0", 3);
        faultDue("w0 1;w0 1 x", 10);
        faultDue(NINE + "w0 0;", 45);
    }

    /** Each beginning of a text of all kinds: whole items, or it ends too early. */
    private void endsTooEarly() {
        checks.sentence("the text's length, if it ends too early");
        String text = "n4;o0 1 2;c1 2 3;w2 3;d3 0;l1;l2;l3;";
        int items = 0;
        boolean whole = true;
        netDue("", 0);
        for (int end = 1; end <= text.length(); end++) {
            char last = text.charAt(end - 1);
            if (last == ';') {
                items++;
                whole = true;
            } else if (last != ' ') {
                whole = false;
            }
            String part = text.substring(0, end);
            netDue(part, whole ? items : -10 - end);
            netDue(part + "  ", whole ? items : -12 - end);
            String far = part + " ".repeat(100 - end);
            netDue(far, whole ? items : -110);
        }
    }

    private void faultChangesNothing() {
        checks.sentence("-10 less FAULT: nothing changes.");
        SneakPaths x = Checks.told("n7;o0 1 0;w1 6;l6;");
        x.wishes(0, 9);
        x.keep(1);
        x.cures(1, 1, 2);
        x.sticks(0, 2);
        x.sees(0, 4, 1);
        Checks.type(x, "n2;w0 1;l1;l1;");
        for (int i = 0; i < 2; i++) {
            due("the fault", x.net(), -22);
            int[] counts = {7, 2, 1, 1, 0, 1, 14, 3};
            for (int what = 0; what < counts.length; what++) {
                due("count(" + what + ")", x.count(what), counts[what]);
            }
            due("a contact's node", x.contact(1, 2), 6);
            due("its cure", x.contact(1, 4), 1);
            due("what sticks", x.contact(0, 6), 2);
            due("a load's node", x.load(0, 0), 6);
            due("what it wishes", x.load(0, 2), 9);
        }
        due("the image is there", x.back(1), 2);
        due("as it was kept", x.contact(1, 4), 4);
        SneakPaths y = new SneakPaths();
        Checks.type(y, "w0 1");
        due("not ended", y.net(), -14);
        y.type(';');
        due("the text can be ended then", y.net(), 1);
    }

    private void toldAnew() {
        checks.sentence("THE TEXT tells all anew, and is empty then: how many ITEMS.");
        SneakPaths x = Checks.told("n7;" + "o0 6 3;".repeat(9) + "l4;l5;l6;");
        due("the text is empty", x.count(6), 0);
        due("an empty text tells of no items", x.net(), 0);
        int[] counts = {3, 0, 0, 0, 0, 0, 0, 0};
        for (int what = 0; what < counts.length; what++) {
            due("count(" + what + ") then", x.count(what), counts[what]);
        }
        due("no contact", x.contact(0, 0), BAD);
        due("no load", x.load(0, 0), BAD);
        Checks.type(x, "d0 1;l1;");
        due("the next text", x.net(), 2);
        due("its contact", x.contact(0, 0), 3);
        due("it is the only one", x.contact(1, 0), BAD);
        checks.sentence("(Read anew: as told, nothing can be UNDONE, nothing SEEN, IMAGES are gone.)");
        x.cures(0, 0, 3);
        x.sticks(0, 1);
        x.wishes(0, 1);
        x.sees(0, 0, 0);
        x.keep(0);
        x.keep(1);
        Checks.type(x, "d0 1;l1;");
        due("the same text anew", x.net(), 2);
        due("no cure", x.contact(0, 4), 4);
        due("none is the same", x.cures(0, 4, 0), STATE);
        due("does not stick", x.contact(0, 6), 0);
        due("wished as fed", x.load(0, 2), 65535);
        due("nothing to undo", x.count(7), 0);
        due("undo", x.undo(), STATE);
        due("nothing seen", x.count(5), 0);
        due("forget", x.forget(), 0);
        due("image 0", x.back(0), STATE);
        due("image 1", x.back(1), STATE);
    }
}
