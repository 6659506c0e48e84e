import java.math.BigInteger;
import java.util.ArrayDeque;
import java.util.ArrayList;
import java.util.Arrays;
import java.util.Comparator;
import java.util.Deque;
import java.util.List;

/** The document written a second time, state by state and with lists, to compare with. */
final class Oracle {
    private static final int BAD = -1, STATE = -2, FULL = -3, NONE = -9;

    private record Contact(int kind, int u, int v, int s) { }

    private record Sight(int load, int state, boolean fed) { }

    /** What may be changed; arrays are copied whole. */
    private static final class Things {
        int[] wished = new int[0];
        int[][] cure = new int[0][];
        int[] stick = new int[0];

        Things copy() {
            Things t = new Things();
            t.wished = wished.clone();
            t.cure = new int[cure.length][];
            for (int i = 0; i < cure.length; i++) {
                t.cure[i] = cure[i].clone();
            }
            t.stick = stick.clone();
            return t;
        }
    }

    private String text = "";
    private int nodes = 3;
    private List<Contact> contacts = new ArrayList<>();
    private List<Integer> loads = new ArrayList<>();
    private Things now = new Things();
    private final Deque<Things> past = new ArrayDeque<>();
    private final List<Sight> seen = new ArrayList<>();
    private final Things[] images = new Things[2];

    int type(int letter) {
        if (letter < 0 || letter > 255) {
            return BAD;
        }
        if (text.length() == 100) {
            return FULL;
        }
        text += (char) letter;
        return text.length();
    }

    int clear() {
        int n = text.length();
        text = "";
        return n;
    }

    // ---- reading: tokens first, with their places, then a table of what each item wants

    private List<int[]> tokens() {
        List<int[]> list = new ArrayList<>();
        int i = 0;
        while (i < text.length()) {
            char ch = text.charAt(i);
            int start = i;
            if (ch == ' ') {
                i++;
            } else if (ch >= '0' && ch <= '9') {
                while (i < text.length() && text.charAt(i) >= '0' && text.charAt(i) <= '9') {
                    i++;
                }
                String number = text.substring(start, i);
                boolean good = number.equals("0") || !number.startsWith("0") && new BigInteger(number).compareTo(BigInteger.TEN) < 0;
                list.add(new int[] {start, good ? 1 : 3, good ? Integer.parseInt(number) : 0});
            } else {
                i++;
                list.add(new int[] {start, "nocwdl;".indexOf(ch) >= 0 ? 2 : 3, ch});
            }
        }
        return list;
    }

    int net() {
        int newNodes = 3;
        List<Contact> newContacts = new ArrayList<>();
        List<Integer> newLoads = new ArrayList<>();
        int items = 0;
        List<Integer> item = new ArrayList<>();
        for (int[] t : tokens()) {
            int wants = item.isEmpty() ? 0 : item.get(0) == 'n' || item.get(0) == 'l' ? 2 : item.get(0) == 'o' || item.get(0) == 'c' ? 4 : 3;
            boolean good;
            if (item.isEmpty()) {
                good = t[1] == 2 && t[2] != ';';
                good = good && !(t[2] == 'n' && items > 0);
                good = good && !("ocwd".indexOf(t[2]) >= 0 && newContacts.size() == 9);
                good = good && !(t[2] == 'l' && newLoads.size() == 3);
                item.add(t[2]);
            } else if (item.size() == wants) {
                good = t[1] == 2 && t[2] == ';';
                if (good) {
                    items++;
                    switch ((int) item.get(0)) {
                        case 'n' -> newNodes = item.get(1);
                        case 'l' -> newLoads.add(item.get(1));
                        default -> newContacts.add(new Contact("ocwd".indexOf(item.get(0)), item.get(1), item.get(2), wants == 4 ? item.get(3) : NONE));
                    }
                    item.clear();
                }
            } else {
                int n = t[2];
                good = t[1] == 1;
                if (item.get(0) == 'n') {
                    good = good && n >= 2 && n <= 7;
                } else if (item.get(0) == 'l') {
                    good = good && n >= 1 && n < newNodes && !newLoads.contains(n);
                } else if (item.size() == 3) {
                    good = good && n <= 3;
                } else {
                    good = good && n < newNodes && !(item.size() == 2 && item.get(1) == n);
                }
                item.add(n);
            }
            if (!good) {
                return -10 - t[0];
            }
        }
        if (!item.isEmpty()) {
            return -10 - text.length();
        }
        nodes = newNodes;
        contacts = newContacts;
        loads = newLoads;
        text = "";
        past.clear();
        seen.clear();
        Arrays.fill(images, null);
        now = new Things();
        now.wished = new int[loads.size()];
        now.stick = new int[contacts.size()];
        now.cure = new int[contacts.size()][];
        for (int i = 0; i < contacts.size(); i++) {
            now.cure[i] = new int[] {4, 0};
        }
        for (int l = 0; l < loads.size(); l++) {
            now.wished[l] = fedStates(now, l);
        }
        return items;
    }

    // ---- what is shut, what is fed

    private static boolean shutBy(int kind, int s, int state) {
        if (kind == 0) {
            return (state >> s) % 2 == 1;
        }
        return kind != 1 || (state >> s) % 2 == 0;
    }

    private boolean shut(Things t, int c, int state) {
        if (t.stick[c] != 0) {
            return t.stick[c] == 2;
        }
        Contact k = contacts.get(c);
        return shutBy(k.kind, k.s, state) && shutBy(t.cure[c][0], t.cure[c][1], state);
    }

    private boolean directed(Things t, int c, int from, int to) {
        Contact k = contacts.get(c);
        boolean forth = k.u == from && k.v == to;
        boolean back = k.v == from && k.u == to;
        if (t.stick[c] == 1) {
            return false;
        }
        if (t.stick[c] == 2) {
            return forth || back;
        }
        if (k.kind == 3) {
            back = false;
        }
        if (t.cure[c][0] == 2) {
            back = false;
        }
        if (t.cure[c][0] == 3) {
            forth = false;
        }
        return forth || back;
    }

    private boolean fed(Things t, int l, int state, int gone) {
        boolean[] on = new boolean[nodes];
        Deque<Integer> open = new ArrayDeque<>();
        on[0] = true;
        open.add(0);
        while (!open.isEmpty()) {
            int from = open.remove();
            for (int to = 0; to < nodes; to++) {
                for (int c = 0; c < contacts.size() && !on[to]; c++) {
                    if ((gone >> c) % 2 == 0 && shut(t, c, state) && directed(t, c, from, to)) {
                        on[to] = true;
                        open.add(to);
                    }
                }
            }
        }
        return on[loads.get(l)];
    }

    private int fedStates(Things t, int l) {
        int bits = 0;
        for (int state = 0; state < 16; state++) {
            if (fed(t, l, state, 0)) {
                bits += 1 << state;
            }
        }
        return bits;
    }

    private boolean noContact(int c) {
        return c < 0 || c >= contacts.size();
    }

    private boolean noLoad(int l) {
        return l < 0 || l >= loads.size();
    }

    private static boolean beyond(int n, int most) {
        return n < 0 || n > most;
    }

    int contact(int c, int what) {
        if (noContact(c) || beyond(what, 6)) {
            return BAD;
        }
        Contact k = contacts.get(c);
        int[] cure = now.cure[c];
        return new int[] {k.kind, k.u, k.v, k.s, cure[0], cure[0] < 2 ? cure[1] : NONE, now.stick[c]}[what];
    }

    int load(int l, int what) {
        if (noLoad(l) || beyond(what, 5)) {
            return BAD;
        }
        int fed = fedStates(now, l);
        int wished = now.wished[l];
        int both = fed & wished;
        return new int[] {loads.get(l), fed, wished, fed - both, wished - both, paths(l).size()}[what];
    }

    // ---- what is done

    private void remember() {
        past.addLast(now.copy());
        if (past.size() > 10) {
            past.removeFirst();
        }
    }

    int wishes(int l, int states) {
        if (noLoad(l) || beyond(states, 65535)) {
            return BAD;
        }
        remember();
        int was = now.wished[l];
        now.wished[l] = states;
        return was;
    }

    int cures(int c, int kind, int by) {
        if (noContact(c) || beyond(kind, 4) || beyond(by, kind < 2 ? 3 : 0)) {
            return BAD;
        }
        if (Arrays.equals(now.cure[c], new int[] {kind, by})) {
            return STATE;
        }
        remember();
        int was = now.cure[c][0];
        now.cure[c] = new int[] {kind, by};
        return was;
    }

    int sticks(int c, int how) {
        if (noContact(c) || beyond(how, 2)) {
            return BAD;
        }
        if (now.stick[c] == how) {
            return STATE;
        }
        remember();
        int was = now.stick[c];
        now.stick[c] = how;
        return was;
    }

    int undo() {
        if (past.isEmpty()) {
            return STATE;
        }
        now = past.removeLast();
        return past.size();
    }

    // ---- paths

    private List<List<Integer>> paths(int l) {
        List<List<Integer>> all = new ArrayList<>();
        collect(l, new ArrayList<>(List.of(0)), new ArrayList<>(), all);
        all.sort((a, b) -> {
            for (int i = 0; i < a.size() && i < b.size(); i++) {
                if (!a.get(i).equals(b.get(i))) {
                    return a.get(i) - b.get(i);
                }
            }
            return a.size() - b.size();
        });
        return all;
    }

    private void collect(int l, List<Integer> went, List<Integer> over, List<List<Integer>> all) {
        int from = went.get(went.size() - 1);
        if (from == loads.get(l)) {
            all.add(new ArrayList<>(over));
            return;
        }
        for (int c = contacts.size() - 1; c >= 0; c--) {
            for (int to = 0; to < nodes; to++) {
                if (directed(now, c, from, to) && !went.contains(to)) {
                    went.add(to);
                    over.add(c);
                    collect(l, went, over, all);
                    went.remove(went.size() - 1);
                    over.remove(over.size() - 1);
                }
            }
        }
    }

    private boolean allShut(List<Integer> path, int state) {
        return path.stream().allMatch(c -> shut(now, c, state));
    }

    int path(int l, int k, int what) {
        if (noLoad(l) || k < 0 || beyond(what, 2)) {
            return BAD;
        }
        List<List<Integer>> all = paths(l);
        if (k >= all.size()) {
            return NONE;
        }
        List<Integer> p = all.get(k);
        if (what == 0) {
            return p.stream().mapToInt(c -> 1 << c).sum();
        }
        if (what == 1) {
            return p.size();
        }
        int bits = 0;
        for (int state = 0; state < 16; state++) {
            bits += allShut(p, state) ? 1 << state : 0;
        }
        return bits;
    }

    int shortest(int l, int state, int k) {
        if (noLoad(l) || beyond(state, 15) || k < -1) {
            return BAD;
        }
        List<Integer> best = paths(l).stream().filter(p -> allShut(p, state)).min(Comparator.comparingInt(List::size)).orElse(null);
        if (best == null || k >= best.size()) {
            return NONE;
        }
        return k == -1 ? best.size() : best.get(k);
    }

    int parting(int l, int state) {
        if (noLoad(l) || beyond(state, 15)) {
            return BAD;
        }
        for (int size = 0; size <= 9; size++) {
            for (int set = 0; set < 1 << contacts.size(); set++) {
                if (Integer.bitCount(set) == size && !fed(now, l, state, set)) {
                    return set;
                }
            }
        }
        throw new IllegalStateException();
    }

    int enough(int what) {
        if (beyond(what, 1)) {
            return BAD;
        }
        List<Integer> good = new ArrayList<>();
        for (int c = 0; c < contacts.size(); c++) {
            for (int kind = 0; kind < 4; kind++) {
                for (int by = 0; by < (kind < 2 ? 4 : 1); by++) {
                    if (now.cure[c][0] != 4) {
                        continue;
                    }
                    Things then = now.copy();
                    then.cure[c] = new int[] {kind, by};
                    boolean ok = true;
                    for (int l = 0; l < loads.size(); l++) {
                        for (int state = 0; state < 16; state++) {
                            boolean wished = (now.wished[l] >> state) % 2 == 1;
                            boolean fedThen = fed(then, l, state, 0);
                            ok &= wished || !fedThen;
                            ok &= !(wished && !fedThen) || !fed(now, l, state, 0);
                        }
                    }
                    if (ok) {
                        good.add(100 * c + 10 * kind + by);
                    }
                }
            }
        }
        return what == 0 ? good.size() : good.isEmpty() ? NONE : good.get(0);
    }

    int flash(int l, int from, int to) {
        if (noLoad(l) || beyond(from, 15) || beyond(to, 15)) {
            return BAD;
        }
        boolean ends = fed(now, l, from, 0) || fed(now, l, to, 0);
        return !ends && flashes(l, from, to) ? 1 : 0;
    }

    private boolean flashes(int l, int at, int to) {
        if (fed(now, l, at, 0)) {
            return true;
        }
        for (int k = 0; k < 4; k++) {
            if (((at ^ to) >> k) % 2 == 1 && flashes(l, at ^ 1 << k, to)) {
                return true;
            }
        }
        return false;
    }

    int odds(int x, int l, int state, int what) {
        if (beyond(x, 10) || noLoad(l) || beyond(state, 15) || beyond(what, 1)) {
            return BAD;
        }
        BigInteger up = chance(x, l, state, 0, 0);
        BigInteger low = BigInteger.TEN.pow(contacts.size());
        BigInteger g = up.gcd(low);
        return (what == 0 ? up : low).divide(g).intValueExact();
    }

    /** Of 10 to the contacts that are left: by how many it is fed. */
    private BigInteger chance(int x, int l, int state, int c, int gone) {
        if (c == contacts.size()) {
            return fed(now, l, state, gone) ? BigInteger.ONE : BigInteger.ZERO;
        }
        return chance(x, l, state, c + 1, gone | 1 << c).multiply(BigInteger.valueOf(x))
                .add(chance(x, l, state, c + 1, gone).multiply(BigInteger.valueOf(10 - x)));
    }

    // ---- which contact

    int sees(int l, int state, int fed) {
        if (noLoad(l) || beyond(state, 15) || beyond(fed, 1)) {
            return BAD;
        }
        if (seen.size() == 6) {
            return FULL;
        }
        seen.add(new Sight(l, state, fed == 1));
        return seen.size();
    }

    int forget() {
        int n = seen.size();
        seen.clear();
        return n;
    }

    int unseen(int how) {
        if (how != 1 && how != 2) {
            return BAD;
        }
        int bits = 0;
        for (int c = 0; c < contacts.size(); c++) {
            Things then = now.copy();
            then.stick[c] = how;
            if (seen.stream().allMatch(s -> fed(then, s.load, s.state, 0) == s.fed)) {
                bits += 1 << c;
            }
        }
        return bits;
    }

    // ---- images

    int keep(int image) {
        if (beyond(image, 1)) {
            return BAD;
        }
        images[image] = now.copy();
        return contacts.size();
    }

    int back(int image) {
        if (beyond(image, 1)) {
            return BAD;
        }
        if (images[image] == null) {
            return STATE;
        }
        now = images[image].copy();
        past.clear();
        return contacts.size();
    }

    int count(int what) {
        if (beyond(what, 7)) {
            return BAD;
        }
        int sneak = 0;
        int miss = 0;
        for (int l = 0; l < loads.size(); l++) {
            sneak += load(l, 3) != 0 ? 1 : 0;
            miss += load(l, 4) != 0 ? 1 : 0;
        }
        return new int[] {nodes, contacts.size(), loads.size(), sneak, miss, seen.size(), text.length(), past.size()}[what];
    }
}
