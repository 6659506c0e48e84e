import java.util.ArrayList;
import java.util.LinkedHashMap;
import java.util.List;
import java.util.Map;
import java.util.function.ToIntFunction;

/**
 * Calls that must change nothing: each is made on one of two objects with the same past, and all
 * that both can be asked for later must be the same.
 */
public final class RefusedTest {
    private static final int BAD = SneakPaths.BAD, STATE = SneakPaths.STATE, FULL = SneakPaths.FULL;
    private static final String BRIDGE = "n5;o0 1 0;o0 2 1;o1 3 2;o2 4 3;w1 2;l3;l4;";
    private static final int[] WILD = {Integer.MIN_VALUE, -65536, -10, -9, -3, -2, 31, 32, 100, 256, 65536, Integer.MAX_VALUE};

    private final Checks checks = new Checks();

    public static void main(String[] args) {
        RefusedTest t = new RefusedTest();
        t.bad();
        t.state();
        t.full();
        t.faults();
        t.questions();
        t.checks.end("RefusedTest");
    }

    /** A past in which all that can be held is held: eight deeds, an image, sights, letters. */
    private static SneakPaths past() {
        SneakPaths x = Checks.told(BRIDGE);
        x.wishes(0, 0xA0A0);
        x.cures(4, 1, 2);
        x.sticks(1, 2);
        x.keep(0);
        x.cures(0, 2, 0);
        x.wishes(1, 77);
        x.sticks(3, 1);
        x.cures(4, 0, 3);
        x.sticks(1, 0);
        x.sees(0, 5, 0);
        x.sees(1, 3, 1);
        Checks.type(x, "n2;w0 1;l1");
        return x;
    }

    /** Ten deeds, six sights, a hundred letters: nothing more can be held. */
    private static SneakPaths fullPast() {
        SneakPaths x = past();
        x.wishes(0, 1);
        x.wishes(0, 2);
        for (int i = 0; i < 4; i++) {
            x.sees(0, i, 1);
        }
        Checks.type(x, " ".repeat(90));
        return x;
    }

    private void unchanged(String call, SneakPaths called, SneakPaths other) {
        List<Integer> got = later(called);
        List<Integer> want = later(other);
        checks.due(call + ": answers later", got.size(), want.size());
        for (int i = 0; i < Math.min(got.size(), want.size()); i++) {
            checks.due(call + ": later answer " + i, got.get(i), want.get(i));
        }
    }

    /** What is seen from outside, then what undo, back and net make of it. */
    private static List<Integer> later(SneakPaths x) {
        List<Integer> answers = new ArrayList<>();
        look(x, answers);
        answers.add(x.undo());
        answers.add(x.undo());
        answers.add(x.undo());
        look(x, answers);
        for (int i = 0; i < 8; i++) {
            answers.add(x.undo());
        }
        answers.add(x.load(0, 2));
        answers.add(x.back(1));
        answers.add(x.back(0));
        look(x, answers);
        answers.add(x.net());
        answers.add(x.count(0));
        return answers;
    }

    private static void look(SneakPaths x, List<Integer> answers) {
        for (int what = 0; what < 8; what++) {
            answers.add(x.count(what));
        }
        for (int c = 0; c < 5; c++) {
            for (int what = 0; what < 7; what++) {
                answers.add(x.contact(c, what));
            }
        }
        for (int l = 0; l < 2; l++) {
            for (int what = 0; what < 6; what++) {
                answers.add(x.load(l, what));
            }
        }
        answers.add(x.unseen(1));
        answers.add(x.unseen(2));
    }

    private void refused(int answer, Map<String, ToIntFunction<SneakPaths>> calls) {
        for (Map.Entry<String, ToIntFunction<SneakPaths>> call : calls.entrySet()) {
            SneakPaths x = past();
            checks.due(call.getKey(), call.getValue().applyAsInt(x), answer);
            unchanged(call.getKey(), x, past());
            SneakPaths y = fullPast();
            checks.due(call.getKey() + " when all is full", call.getValue().applyAsInt(y), answer);
            unchanged(call.getKey() + " when all is full", y, fullPast());
        }
    }

    private void bad() {
        checks.sentence("Refused, and nothing changes, the first of these: BAD (a number is not as told, or there is no such thing)");
        Map<String, ToIntFunction<SneakPaths>> calls = new LinkedHashMap<>();
        calls.put("type(-1)", x -> x.type(-1));
        calls.put("type(256)", x -> x.type(256));
        calls.put("wishes(-1, 0)", x -> x.wishes(-1, 0));
        calls.put("wishes(2, 0)", x -> x.wishes(2, 0));
        calls.put("wishes(0, -1)", x -> x.wishes(0, -1));
        calls.put("wishes(0, 65536)", x -> x.wishes(0, 65536));
        calls.put("cures(-1, 0, 0)", x -> x.cures(-1, 0, 0));
        calls.put("cures(5, 0, 0)", x -> x.cures(5, 0, 0));
        calls.put("cures(2, -1, 0)", x -> x.cures(2, -1, 0));
        calls.put("cures(2, 5, 0)", x -> x.cures(2, 5, 0));
        for (int kind = 0; kind <= 4; kind++) {
            int k = kind;
            calls.put("cures(2, " + k + ", -1)", x -> x.cures(2, k, -1));
            calls.put("cures(2, " + k + ", 4)", x -> x.cures(2, k, 4));
            calls.put("cures(2, " + k + ", too large)", x -> x.cures(2, k, k < 2 ? 4 : 1));
        }
        calls.put("sticks(-1, 1)", x -> x.sticks(-1, 1));
        calls.put("sticks(5, 1)", x -> x.sticks(5, 1));
        calls.put("sticks(2, -1)", x -> x.sticks(2, -1));
        calls.put("sticks(2, 3)", x -> x.sticks(2, 3));
        calls.put("sees(-1, 0, 0)", x -> x.sees(-1, 0, 0));
        calls.put("sees(2, 0, 0)", x -> x.sees(2, 0, 0));
        calls.put("sees(0, -1, 0)", x -> x.sees(0, -1, 0));
        calls.put("sees(0, 16, 0)", x -> x.sees(0, 16, 0));
        calls.put("sees(0, 0, -1)", x -> x.sees(0, 0, -1));
        calls.put("sees(0, 0, 2)", x -> x.sees(0, 0, 2));
        calls.put("keep(-1)", x -> x.keep(-1));
        calls.put("keep(2)", x -> x.keep(2));
        calls.put("back(-1)", x -> x.back(-1));
        calls.put("back(2)", x -> x.back(2));
        badQuestions(calls);
        for (int wild : WILD) {
            wildCalls(calls, wild);
        }
        refused(BAD, calls);
    }

    private static void badQuestions(Map<String, ToIntFunction<SneakPaths>> calls) {
        calls.put("contact(5, 4)", x -> x.contact(5, 4));
        calls.put("contact(0, 7)", x -> x.contact(0, 7));
        calls.put("load(2, 1)", x -> x.load(2, 1));
        calls.put("load(0, 6)", x -> x.load(0, 6));
        calls.put("path(0, -1, 0)", x -> x.path(0, -1, 0));
        calls.put("path(0, 0, 3)", x -> x.path(0, 0, 3));
        calls.put("shortest(0, 16, 0)", x -> x.shortest(0, 16, 0));
        calls.put("shortest(0, 0, -2)", x -> x.shortest(0, 0, -2));
        calls.put("parting(0, 16)", x -> x.parting(0, 16));
        calls.put("enough(2)", x -> x.enough(2));
        calls.put("flash(0, 0, 16)", x -> x.flash(0, 0, 16));
        calls.put("odds(11, 0, 0, 0)", x -> x.odds(11, 0, 0, 0));
        calls.put("unseen(3)", x -> x.unseen(3));
        calls.put("count(8)", x -> x.count(8));
    }

    private static void wildCalls(Map<String, ToIntFunction<SneakPaths>> calls, int wild) {
        if (wild < 0 || wild > 255) {
            calls.put("type(" + wild + ")", x -> x.type(wild));
        }
        if (wild < 0 || wild > 65535) {
            calls.put("wishes(1, " + wild + ")", x -> x.wishes(1, wild));
        }
        calls.put("wishes(" + wild + ", 1)", x -> x.wishes(wild, 1));
        calls.put("cures(" + wild + ", 0, 0)", x -> x.cures(wild, 0, 0));
        calls.put("cures(2, " + wild + ", 0)", x -> x.cures(2, wild, 0));
        calls.put("cures(2, 1, " + wild + ")", x -> x.cures(2, 1, wild));
        calls.put("sticks(" + wild + ", 1)", x -> x.sticks(wild, 1));
        calls.put("sticks(2, " + wild + ")", x -> x.sticks(2, wild));
        calls.put("sees(" + wild + ", 0, 0)", x -> x.sees(wild, 0, 0));
        calls.put("sees(0, " + wild + ", 0)", x -> x.sees(0, wild, 0));
        calls.put("sees(0, 0, " + wild + ")", x -> x.sees(0, 0, wild));
        calls.put("keep(" + wild + ")", x -> x.keep(wild));
        calls.put("back(" + wild + ")", x -> x.back(wild));
    }

    private void state() {
        checks.sentence("STATE (as told)");
        Map<String, ToIntFunction<SneakPaths>> calls = new LinkedHashMap<>();
        calls.put("cures: none is the same", x -> x.cures(2, 4, 0));
        calls.put("cures: open 3 is the same", x -> x.cures(4, 0, 3));
        calls.put("cures: forward is the same", x -> x.cures(0, 2, 0));
        calls.put("sticks: it does not", x -> x.sticks(2, 0));
        calls.put("sticks: it does, open", x -> x.sticks(3, 1));
        calls.put("back: none was kept", x -> x.back(1));
        refused(STATE, calls);
        SneakPaths x = Checks.told(BRIDGE);
        checks.due("undo: none", x.undo(), STATE);
        unchanged("undo: none", x, Checks.told(BRIDGE));
        SneakPaths y = past();
        y.keep(1);
        y.sticks(0, 2);
        SneakPaths z = past();
        z.keep(1);
        z.sticks(0, 2);
        checks.due("sticks: it does, shut", y.sticks(0, 2), STATE);
        unchanged("sticks: it does, shut", y, z);
    }

    private void full() {
        checks.sentence("STATE (as told), FULL.");
        SneakPaths x = fullPast();
        for (int letter = 0; letter <= 255; letter += 5) {
            checks.due("type(" + letter + ")", x.type(letter), FULL);
        }
        unchanged("type, full", x, fullPast());
        SneakPaths y = fullPast();
        checks.due("sees", y.sees(0, 0, 1), FULL);
        checks.due("sees the contrary", y.sees(1, 15, 0), FULL);
        unchanged("sees, full", y, fullPast());
    }

    private void faults() {
        checks.sentence("-10 less FAULT: nothing changes.");
        SneakPaths x = past();
        checks.due("net", x.net(), -20);
        unchanged("net", x, past());
        SneakPaths y = fullPast();
        checks.due("net of a full text", y.net(), -110);
        unchanged("net of a full text", y, fullPast());
    }

    /** Calls that only ask, with all that they can be asked. */
    private void questions() {
        checks.sentence("(As things are NOW; nothing is changed.)");
        Map<String, ToIntFunction<SneakPaths>> calls = new LinkedHashMap<>();
        for (int state = 0; state < 16; state++) {
            int s = state;
            calls.put("shortest in " + s, x -> x.shortest(s % 2, s, -1) + x.shortest(s % 2, s, 0));
            calls.put("parting in " + s, x -> x.parting(s % 2, s));
            calls.put("flash from " + s, x -> x.flash(s % 2, s, 15 - s));
            calls.put("odds in " + s, x -> x.odds(s % 11, s % 2, s, 0) + x.odds(s % 11, s % 2, s, 1));
        }
        for (int k = 0; k < 4; k++) {
            int n = k;
            calls.put("path " + n, x -> x.path(n % 2, n, 0) + x.path(n % 2, n, 1) + x.path(n % 2, n, 2));
        }
        calls.put("enough", x -> x.enough(0) + x.enough(1));
        calls.put("unseen", x -> x.unseen(1) + x.unseen(2));
        calls.put("contact", x -> x.contact(0, 4));
        calls.put("load", x -> x.load(0, 5));
        calls.put("count", x -> x.count(3) + x.count(4));
        for (Map.Entry<String, ToIntFunction<SneakPaths>> call : calls.entrySet()) {
            SneakPaths x = past();
            int answer = call.getValue().applyAsInt(x);
            checks.due(call.getKey() + ", asked again", call.getValue().applyAsInt(x), answer);
            unchanged(call.getKey(), x, past());
        }
    }
}
