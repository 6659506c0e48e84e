/**
 * An examiner of contact nets: which loads are fed in which states of four switches, what was
 * wished, by which paths, what cures a sneak path, and which contact may stick.
 *
 * <p>A set of states is 16 bits (bit s is state s), a set of contacts 9 bits. All rows are made
 * by the constructor; no call makes an object.
 */
public final class SneakPaths {
    public static final int BAD = -1, STATE = -2, FULL = -3, NONE = -9;

    private static final int MOST_LETTERS = 100;
    private static final int FEWEST_NODES = 2;
    private static final int FIRST_NODES = 3;
    private static final int MOST_NODES = 7;
    private static final int MOST_CONTACTS = 9;
    private static final int MOST_LOADS = 3;
    private static final int MOST_SEEN = 6;
    private static final int MOST_UNDONE = 10;
    private static final int IMAGES = 2;
    private static final int SWITCHES = 4;
    private static final int STATES = 16;
    private static final int ALL_STATES = 0xFFFF;
    private static final int TENTHS = 10;

    private static final int LIVE = 0;

    /** Kinds of contacts; the first two are kinds of cures too. */
    private static final int OPEN = 0, CLOSED = 1, WIRE = 2, DIODE = 3;
    private static final int FORWARD = 2, BACKWARD = 3, NO_CURE = 4;
    private static final int LOOSE = 0, STUCK_OPEN = 1, STUCK_SHUT = 2;

    /** Of each switch the states in which it is 1. */
    private static final int[] STATES_OF_SWITCH = {0xAAAA, 0xCCCC, 0xF0F0, 0xFF00};

    private final Reader reader = new Reader();
    private final Net plan = new Net();
    private final Setting now = new Setting();
    private final History history = new History();
    private final Seen seen = new Seen();
    private final Ways ways = new Ways(plan, now);
    private final Walk walk = new Walk(plan, ways);
    private final Setting[] images = {new Setting(), new Setting()};
    private final boolean[] kept = new boolean[IMAGES];
    private final int[] missingBefore = new int[MOST_LOADS];

    public SneakPaths() {
    }

    // ---- the net

    public int type(int letter) {
        if (letter < 0 || letter > 255) {
            return BAD;
        }
        return reader.append(letter) ? reader.length : FULL;
    }

    public int clear() {
        int had = reader.length;
        reader.length = 0;
        return had;
    }

    public int net() {
        int answer = reader.read();
        if (answer < 0) {
            return answer;
        }
        plan.takeFrom(reader.draft);
        reader.length = 0;
        now.reset();
        history.known = 0;
        seen.size = 0;
        for (int i = 0; i < IMAGES; i++) {
            kept[i] = false;
        }
        wishWhatIsFed();
        return answer;
    }

    public int contact(int c, int what) {
        if (!isContact(c)) {
            return BAD;
        }
        switch (what) {
            case 0:
                return plan.kind[c];
            case 1:
                return plan.first[c];
            case 2:
                return plan.second[c];
            case 3:
                return plan.by[c];
            case 4:
                return now.cure[c];
            case 5:
                return now.cure[c] <= CLOSED ? now.cureBy[c] : NONE;
            case 6:
                return now.stick[c];
            default:
                return BAD;
        }
    }

    public int load(int l, int what) {
        if (!isLoad(l)) {
            return BAD;
        }
        switch (what) {
            case 0:
                return plan.loadNode[l];
            case 1:
                return fedNow(l);
            case 2:
                return now.wished[l];
            case 3:
                return fedNow(l) & ~now.wished[l];
            case 4:
                return now.wished[l] & ~fedNow(l);
            case 5:
                return howManyPaths(l);
            default:
                return BAD;
        }
    }

    // ---- what is done

    public int wishes(int l, int states) {
        if (!isLoad(l) || states < 0 || states > ALL_STATES) {
            return BAD;
        }
        int was = now.wished[l];
        history.note(History.WISH, l, was, 0);
        now.wished[l] = states;
        return was;
    }

    public int cures(int c, int kind, int by) {
        if (!isContact(c) || kind < OPEN || kind > NO_CURE) {
            return BAD;
        }
        if (by < 0 || by >= choicesOfSwitch(kind)) {
            return BAD;
        }
        int was = now.cure[c];
        int wasBy = now.cureBy[c];
        if (was == kind && wasBy == by) {
            return STATE;
        }
        history.note(History.CURE, c, was, wasBy);
        now.cure[c] = kind;
        now.cureBy[c] = by;
        return was;
    }

    public int sticks(int c, int how) {
        if (!isContact(c) || how < LOOSE || how > STUCK_SHUT) {
            return BAD;
        }
        int was = now.stick[c];
        if (was == how) {
            return STATE;
        }
        history.note(History.STICK, c, was, 0);
        now.stick[c] = how;
        return was;
    }

    public int undo() {
        if (history.known == 0) {
            return STATE;
        }
        history.takeBack(now);
        return history.known;
    }

    // ---- paths

    public int path(int l, int k, int what) {
        if (!isLoad(l) || k < 0 || what < 0 || what > 2) {
            return BAD;
        }
        ways.layAll();
        walk.run(l, k, NONE);
        if (k >= walk.found) {
            return NONE;
        }
        if (what == 0) {
            return walk.bits;
        }
        return what == 1 ? walk.length : walk.shut;
    }

    public int shortest(int l, int state, int k) {
        if (!isLoad(l) || !isState(state) || k < -1) {
            return BAD;
        }
        ways.layAll();
        walk.run(l, NONE, state);
        if (walk.fewest == 0 || k >= walk.fewest) {
            return NONE;
        }
        return k < 0 ? walk.fewest : walk.shortestTrail[k];
    }

    public int parting(int l, int state) {
        if (!isLoad(l) || !isState(state)) {
            return BAD;
        }
        ways.layAll();
        int sets = 1 << plan.contacts;
        int best = sets - 1;
        int fewest = plan.contacts + 1;
        for (int set = 0; set < sets; set++) {
            int size = Integer.bitCount(set);
            if (size < fewest && !ways.feedsWithout(set, l, state)) {
                best = set;
                fewest = size;
            }
        }
        return best;
    }

    public int enough(int what) {
        if (what < 0 || what > 1) {
            return BAD;
        }
        noteMissing();
        int many = 0;
        int first = NONE;
        for (int c = 0; c < plan.contacts; c++) {
            if (now.cure[c] != NO_CURE) {
                continue;
            }
            for (int kind = OPEN; kind < NO_CURE; kind++) {
                for (int by = 0; by < choicesOfSwitch(kind); by++) {
                    if (!isEnough(c, kind, by)) {
                        continue;
                    }
                    if (many == 0) {
                        first = 100 * c + 10 * kind + by;
                    }
                    many++;
                }
            }
        }
        return what == 0 ? many : first;
    }

    public int flash(int l, int from, int to) {
        if (!isLoad(l) || !isState(from) || !isState(to)) {
            return BAD;
        }
        int fed = fedNow(l);
        if (hasBit(fed, from) || hasBit(fed, to)) {
            return 0;
        }
        int moving = from ^ to;
        for (int state = 0; state < STATES; state++) {
            boolean between = ((state ^ from) & ~moving) == 0;
            if (between && hasBit(fed, state)) {
                return 1;
            }
        }
        return 0;
    }

    public int odds(int x, int l, int state, int what) {
        if (x < 0 || x > TENTHS || !isLoad(l) || !isState(state) || what < 0 || what > 1) {
            return BAD;
        }
        ways.layAll();
        int lower = weight(TENTHS, plan.contacts);
        int upper = 0;
        // The weights of all sets add up to lower, 10 to the 9th at most: an int holds it.
        for (int set = 0; set < 1 << plan.contacts; set++) {
            if (ways.feedsWithout(set, l, state)) {
                int open = Integer.bitCount(set);
                upper += weight(x, open) * weight(TENTHS - x, plan.contacts - open);
            }
        }
        int divisor = commonDivisor(upper, lower);
        return (what == 0 ? upper : lower) / divisor;
    }

    // ---- which contact

    public int sees(int l, int state, int fed) {
        if (!isLoad(l) || !isState(state) || fed < 0 || fed > 1) {
            return BAD;
        }
        return seen.append(l, state, fed) ? seen.size : FULL;
    }

    public int forget() {
        int had = seen.size;
        seen.size = 0;
        return had;
    }

    public int unseen(int how) {
        if (how != STUCK_OPEN && how != STUCK_SHUT) {
            return BAD;
        }
        ways.layAll();
        int could = 0;
        for (int c = 0; c < plan.contacts; c++) {
            ways.layOne(c, now.cure[c], now.cureBy[c], how);
            ways.spread(0);
            if (seen.agrees(ways)) {
                could |= 1 << c;
            }
            ways.layOne(c, now.cure[c], now.cureBy[c], now.stick[c]);
        }
        return could;
    }

    // ---- images

    public int keep(int image) {
        if (!isImage(image)) {
            return BAD;
        }
        images[image].takeFrom(now);
        kept[image] = true;
        return plan.contacts;
    }

    public int back(int image) {
        if (!isImage(image)) {
            return BAD;
        }
        if (!kept[image]) {
            return STATE;
        }
        now.takeFrom(images[image]);
        history.known = 0;
        return plan.contacts;
    }

    public int count(int what) {
        switch (what) {
            case 0:
                return plan.nodes;
            case 1:
                return plan.contacts;
            case 2:
                return plan.loads;
            case 3:
                return loadsThatSneak();
            case 4:
                return loadsThatMiss();
            case 5:
                return seen.size;
            case 6:
                return reader.length;
            case 7:
                return history.known;
            default:
                return BAD;
        }
    }

    // ---- helpers

    private boolean isContact(int c) {
        return c >= 0 && c < plan.contacts;
    }

    private boolean isLoad(int l) {
        return l >= 0 && l < plan.loads;
    }

    private static boolean isState(int state) {
        return state >= 0 && state < STATES;
    }

    private static boolean isImage(int image) {
        return image >= 0 && image < IMAGES;
    }

    private static boolean hasBit(int set, int bit) {
        return (set >> bit & 1) != 0;
    }

    /** Cures that are no contact have no switch: for them 0 alone is told. */
    private static int choicesOfSwitch(int kind) {
        return kind <= CLOSED ? SWITCHES : 1;
    }

    private void wishWhatIsFed() {
        ways.layAll();
        ways.spread(0);
        for (int l = 0; l < plan.loads; l++) {
            now.wished[l] = ways.fed(l);
        }
    }

    private int fedNow(int l) {
        ways.layAll();
        ways.spread(0);
        return ways.fed(l);
    }

    private int howManyPaths(int l) {
        ways.layAll();
        walk.run(l, NONE, NONE);
        return walk.found;
    }

    private int loadsThatSneak() {
        int many = 0;
        for (int l = 0; l < plan.loads; l++) {
            if ((fedNow(l) & ~now.wished[l]) != 0) {
                many++;
            }
        }
        return many;
    }

    private int loadsThatMiss() {
        int many = 0;
        for (int l = 0; l < plan.loads; l++) {
            if ((now.wished[l] & ~fedNow(l)) != 0) {
                many++;
            }
        }
        return many;
    }

    /** Leaves the ways laid as things are now, for isEnough. */
    private void noteMissing() {
        ways.layAll();
        ways.spread(0);
        for (int l = 0; l < plan.loads; l++) {
            missingBefore[l] = now.wished[l] & ~ways.fed(l);
        }
    }

    private boolean isEnough(int c, int kind, int by) {
        ways.layOne(c, kind, by, now.stick[c]);
        ways.spread(0);
        boolean good = true;
        for (int l = 0; l < plan.loads; l++) {
            int fed = ways.fed(l);
            int sneaks = fed & ~now.wished[l];
            int missing = now.wished[l] & ~fed;
            if (sneaks != 0 || (missing & ~missingBefore[l]) != 0) {
                good = false;
            }
        }
        ways.layOne(c, now.cure[c], now.cureBy[c], now.stick[c]);
        return good;
    }

    private static int weight(int base, int times) {
        int product = 1;
        for (int i = 0; i < times; i++) {
            product *= base;
        }
        return product;
    }

    private static int commonDivisor(int upper, int lower) {
        int a = upper;
        int b = lower;
        // Euclid's way needs at most 45 steps for numbers of an int.
        for (int i = 0; i < 64 && b != 0; i++) {
            int rest = a % b;
            a = b;
            b = rest;
        }
        return a > 0 ? a : 1;
    }

    /** What a text tells: nodes, contacts, loads. */
    private static final class Net {
        int nodes = FIRST_NODES;
        int contacts;
        int loads;
        final int[] kind = new int[MOST_CONTACTS];
        final int[] first = new int[MOST_CONTACTS];
        final int[] second = new int[MOST_CONTACTS];
        final int[] by = new int[MOST_CONTACTS];
        final int[] loadNode = new int[MOST_LOADS];

        void reset() {
            nodes = FIRST_NODES;
            contacts = 0;
            loads = 0;
        }

        void addContact(int itsKind, int itsFirst, int itsSecond, int itsSwitch) {
            if (contacts >= MOST_CONTACTS) {
                return;
            }
            kind[contacts] = itsKind;
            first[contacts] = itsFirst;
            second[contacts] = itsSecond;
            by[contacts] = itsSwitch;
            contacts++;
        }

        void addLoad(int node) {
            if (loads >= MOST_LOADS) {
                return;
            }
            loadNode[loads] = node;
            loads++;
        }

        boolean hasLoadAt(int node) {
            for (int l = 0; l < loads; l++) {
                if (loadNode[l] == node) {
                    return true;
                }
            }
            return false;
        }

        void takeFrom(Net other) {
            nodes = other.nodes;
            contacts = other.contacts;
            loads = other.loads;
            System.arraycopy(other.kind, 0, kind, 0, MOST_CONTACTS);
            System.arraycopy(other.first, 0, first, 0, MOST_CONTACTS);
            System.arraycopy(other.second, 0, second, 0, MOST_CONTACTS);
            System.arraycopy(other.by, 0, by, 0, MOST_CONTACTS);
            System.arraycopy(other.loadNode, 0, loadNode, 0, MOST_LOADS);
        }
    }

    /** The text and how it is read: into a draft, so that a fault changes nothing. */
    private static final class Reader {
        private static final int FAULT = -10;
        private static final int END = -1, WRONG = -2;

        final Net draft = new Net();
        int length;
        private final int[] letters = new int[MOST_LETTERS];
        private int at;
        /** The latest token: its letter, a NUMBER's one digit, END or WRONG; and its place. */
        private int token;
        private int place;

        boolean append(int letter) {
            if (length >= MOST_LETTERS) {
                return false;
            }
            letters[length] = letter;
            length++;
            return true;
        }

        /** How many items, or FAULT less the place of the token that can't stand there. */
        int read() {
            draft.reset();
            at = 0;
            for (int items = 0; items <= MOST_LETTERS; items++) {
                nextToken();
                if (token == END) {
                    return items;
                }
                if (!readItem(items == 0)) {
                    return FAULT - place;
                }
            }
            return FAULT - place;
        }

        private boolean readItem(boolean firstOfAll) {
            switch (token) {
                case 'n':
                    return firstOfAll && readNodes();
                case 'o':
                    return readContact(OPEN);
                case 'c':
                    return readContact(CLOSED);
                case 'w':
                    return readContact(WIRE);
                case 'd':
                    return readContact(DIODE);
                case 'l':
                    return readLoad();
                default:
                    return false;
            }
        }

        private boolean readNodes() {
            int nodes = readNumber(FEWEST_NODES, MOST_NODES);
            if (nodes < 0) {
                return false;
            }
            draft.nodes = nodes;
            return readSemicolon();
        }

        private boolean readContact(int kind) {
            if (draft.contacts >= MOST_CONTACTS) {
                return false;
            }
            int first = readNumber(0, draft.nodes - 1);
            if (first < 0) {
                return false;
            }
            int second = readNumber(0, draft.nodes - 1);
            if (second < 0 || second == first) {
                return false;
            }
            int by = NONE;
            if (kind <= CLOSED) {
                by = readNumber(0, SWITCHES - 1);
                if (by < 0) {
                    return false;
                }
            }
            draft.addContact(kind, first, second, by);
            return readSemicolon();
        }

        private boolean readLoad() {
            if (draft.loads >= MOST_LOADS) {
                return false;
            }
            int node = readNumber(LIVE + 1, draft.nodes - 1);
            if (node < 0 || draft.hasLoadAt(node)) {
                return false;
            }
            draft.addLoad(node);
            return readSemicolon();
        }

        /** The next token's number, or NONE if it is no number from low to high. */
        private int readNumber(int low, int high) {
            nextToken();
            if (!isDigit(token)) {
                return NONE;
            }
            int number = token - '0';
            return number >= low && number <= high ? number : NONE;
        }

        private boolean readSemicolon() {
            nextToken();
            return token == ';';
        }

        private void nextToken() {
            for (int i = 0; i < MOST_LETTERS && letterAt(at) == ' '; i++) {
                at++;
            }
            place = at;
            token = letterAt(at);
            if (token == END) {
                return;
            }
            at++;
            if (!isDigit(token)) {
                return;
            }
            // A number of several digits is above 9 or has a 0 ahead: it can stand nowhere.
            for (int i = 0; i < MOST_LETTERS && isDigit(letterAt(at)); i++) {
                at++;
                token = WRONG;
            }
        }

        private int letterAt(int index) {
            return index >= 0 && index < length && index < MOST_LETTERS ? letters[index] : END;
        }

        private static boolean isDigit(int letter) {
            return letter >= '0' && letter <= '9';
        }
    }

    /** What calls change and images keep: wishes, cures, what sticks. */
    private static final class Setting {
        final int[] wished = new int[MOST_LOADS];
        final int[] cure = new int[MOST_CONTACTS];
        final int[] cureBy = new int[MOST_CONTACTS];
        final int[] stick = new int[MOST_CONTACTS];

        Setting() {
            reset();
        }

        void reset() {
            for (int l = 0; l < MOST_LOADS; l++) {
                wished[l] = 0;
            }
            for (int c = 0; c < MOST_CONTACTS; c++) {
                cure[c] = NO_CURE;
                cureBy[c] = 0;
                stick[c] = LOOSE;
            }
        }

        void takeFrom(Setting other) {
            System.arraycopy(other.wished, 0, wished, 0, MOST_LOADS);
            System.arraycopy(other.cure, 0, cure, 0, MOST_CONTACTS);
            System.arraycopy(other.cureBy, 0, cureBy, 0, MOST_CONTACTS);
            System.arraycopy(other.stick, 0, stick, 0, MOST_CONTACTS);
        }
    }

    /** What can be undone: of each change what was there before it, the oldest first. */
    private static final class History {
        static final int WISH = 0, CURE = 1, STICK = 2;

        int known;
        private final int[] sort = new int[MOST_UNDONE];
        private final int[] which = new int[MOST_UNDONE];
        private final int[] was = new int[MOST_UNDONE];
        private final int[] wasBy = new int[MOST_UNDONE];

        void note(int itsSort, int itsWhich, int itsWas, int itsWasBy) {
            if (known >= MOST_UNDONE) {
                dropOldest();
            }
            sort[known] = itsSort;
            which[known] = itsWhich;
            was[known] = itsWas;
            wasBy[known] = itsWasBy;
            known++;
        }

        void takeBack(Setting setting) {
            if (known <= 0) {
                return;
            }
            known--;
            int index = which[known];
            switch (sort[known]) {
                case WISH:
                    setting.wished[index] = was[known];
                    break;
                case CURE:
                    setting.cure[index] = was[known];
                    setting.cureBy[index] = wasBy[known];
                    break;
                default:
                    setting.stick[index] = was[known];
                    break;
            }
        }

        private void dropOldest() {
            int rest = MOST_UNDONE - 1;
            System.arraycopy(sort, 1, sort, 0, rest);
            System.arraycopy(which, 1, which, 0, rest);
            System.arraycopy(was, 1, was, 0, rest);
            System.arraycopy(wasBy, 1, wasBy, 0, rest);
            known = rest;
        }
    }

    /** What was seen of loads while one unknown contact stuck. */
    private static final class Seen {
        int size;
        private final int[] which = new int[MOST_SEEN];
        private final int[] state = new int[MOST_SEEN];
        private final int[] fed = new int[MOST_SEEN];

        boolean append(int l, int itsState, int itWasFed) {
            if (size >= MOST_SEEN) {
                return false;
            }
            which[size] = l;
            state[size] = itsState;
            fed[size] = itWasFed;
            size++;
            return true;
        }

        /** Whether all of it is so with the ways as they were spread last. */
        boolean agrees(Ways ways) {
            for (int i = 0; i < size; i++) {
                if ((ways.fed(which[i]) >> state[i] & 1) != fed[i]) {
                    return false;
                }
            }
            return true;
        }
    }

    /** Where contacts lead, in all states at once, and what is reached from LIVE by them. */
    private static final class Ways {
        final int[] shut = new int[MOST_CONTACTS];
        private final Net plan;
        private final Setting now;
        private final boolean[] forth = new boolean[MOST_CONTACTS];
        private final boolean[] back = new boolean[MOST_CONTACTS];
        /** Of each node the states in which it is reached. */
        private final int[] reached = new int[MOST_NODES];
        private boolean grew;

        Ways(Net plan, Setting now) {
            this.plan = plan;
            this.now = now;
        }

        void layAll() {
            for (int c = 0; c < plan.contacts; c++) {
                layOne(c, now.cure[c], now.cureBy[c], now.stick[c]);
            }
        }

        /** Lays a contact's ways as if it had this cure and stuck so: trials need no change. */
        void layOne(int c, int cure, int cureBy, int stick) {
            if (stick != LOOSE) {
                boolean isShut = stick == STUCK_SHUT;
                shut[c] = isShut ? ALL_STATES : 0;
                forth[c] = isShut;
                back[c] = isShut;
                return;
            }
            shut[c] = shutBy(plan.kind[c], plan.by[c]) & shutBy(cure, cureBy);
            forth[c] = cure != BACKWARD;
            back[c] = cure != FORWARD && plan.kind[c] != DIODE;
        }

        /** States in which a contact, or a cure, of this kind is shut. */
        private static int shutBy(int kind, int by) {
            if (kind > CLOSED || by < 0 || by >= SWITCHES) {
                return ALL_STATES;
            }
            int on = STATES_OF_SWITCH[by];
            return kind == OPEN ? on : ALL_STATES & ~on;
        }

        /** Finds what is reached while a set of contacts is not shut. */
        void spread(int without) {
            for (int node = 0; node < MOST_NODES; node++) {
                reached[node] = 0;
            }
            reached[LIVE] = ALL_STATES;
            grew = true;
            // A way without a node twice has fewer contacts than there are nodes.
            for (int round = 1; round < plan.nodes && grew; round++) {
                grew = false;
                for (int c = 0; c < plan.contacts; c++) {
                    if ((without >> c & 1) == 0) {
                        spreadOver(c);
                    }
                }
            }
        }

        private void spreadOver(int c) {
            int first = plan.first[c];
            int second = plan.second[c];
            if (forth[c]) {
                flow(first, second, shut[c]);
            }
            if (back[c]) {
                flow(second, first, shut[c]);
            }
        }

        private void flow(int from, int to, int states) {
            int more = reached[from] & states & ~reached[to];
            if (more != 0) {
                reached[to] |= more;
                grew = true;
            }
        }

        /** States in which a load is fed, as was spread last. */
        int fed(int l) {
            return reached[plan.loadNode[l]];
        }

        boolean feedsWithout(int set, int l, int state) {
            spread(set);
            return (fed(l) >> state & 1) != 0;
        }

        /** The node to which a contact leads from a node, in some state or in none; or NONE. */
        int nodeBehind(int c, int node) {
            if (forth[c] && plan.first[c] == node) {
                return plan.second[c];
            }
            return back[c] && plan.second[c] == node ? plan.first[c] : NONE;
        }
    }

    /** Goes over all paths of a load in their order and notes those that were asked for. */
    private static final class Walk {
        /** How many paths there are. */
        int found;
        /** Of the path that was wanted by its number. */
        int bits;
        int length;
        int shut;
        /** Of the shortest path that is shut in the state that was wanted; 0: there is none. */
        int fewest;
        final int[] shortestTrail = new int[MOST_NODES];

        private final Net plan;
        private final Ways ways;
        private final int[] trail = new int[MOST_NODES];
        private int goal;
        private int wantedPath;
        private int wantedState;

        Walk(Net plan, Ways ways) {
            this.plan = plan;
            this.ways = ways;
        }

        /** A path's number, or a state, that is NONE is not wanted. */
        void run(int l, int pathNumber, int state) {
            goal = plan.loadNode[l];
            wantedPath = pathNumber;
            wantedState = state;
            found = 0;
            fewest = 0;
            goOn(LIVE, 1 << LIVE, 0, 0, ALL_STATES);
        }

        /** Contacts are tried from the lowest on: so paths come in their order. */
        private void goOn(int node, int visited, int contacts, int depth, int states) {
            if (node == goal) {
                arrive(contacts, depth, states);
                return;
            }
            if (depth >= MOST_NODES) {
                return;
            }
            for (int c = 0; c < plan.contacts; c++) {
                int next = ways.nodeBehind(c, node);
                if (next >= 0 && (visited >> next & 1) == 0) {
                    trail[depth] = c;
                    goOn(next, visited | 1 << next, contacts | 1 << c, depth + 1, states & ways.shut[c]);
                }
            }
        }

        private void arrive(int contacts, int depth, int states) {
            if (found == wantedPath) {
                bits = contacts;
                length = depth;
                shut = states;
            }
            found++;
            if (wantedState >= 0 && (states >> wantedState & 1) != 0 && (fewest == 0 || depth < fewest)) {
                fewest = depth;
                System.arraycopy(trail, 0, shortestTrail, 0, depth);
            }
        }
    }
}
