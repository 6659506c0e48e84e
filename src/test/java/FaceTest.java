import java.io.IOException;
import java.lang.reflect.Constructor;
import java.lang.reflect.Field;
import java.lang.reflect.Method;
import java.lang.reflect.Modifier;
import java.nio.file.Files;
import java.nio.file.Path;
import java.util.Arrays;
import java.util.List;
import java.util.Set;
import java.util.TreeSet;
import java.util.regex.Matcher;
import java.util.regex.Pattern;

/** The public face, and what a look at the source can tell of LANGUAGE.md. */
public final class FaceTest {
    private static final Path SOURCE = Path.of("src/main/java/SneakPaths.java");
    private static final String[] METHODS = {
        "type 1", "clear 0", "net 0", "contact 2", "load 2", "wishes 2", "cures 3", "sticks 2", "undo 0",
        "path 3", "shortest 3", "parting 2", "enough 1", "flash 3", "odds 4", "sees 3", "forget 0",
        "unseen 1", "keep 1", "back 1", "count 1",
    };

    private final Checks checks = new Checks();

    public static void main(String[] args) throws IOException {
        FaceTest t = new FaceTest();
        t.constants();
        t.members();
        t.nested();
        List<String> lines = Files.readAllLines(SOURCE);
        t.words(lines);
        t.objectsAreMadeWithFields(lines);
        t.methodsAreShort(lines);
        t.checks.end("FaceTest");
    }

    private void constants() {
        checks.due("BAD", SneakPaths.BAD, -1);
        checks.due("STATE", SneakPaths.STATE, -2);
        checks.due("FULL", SneakPaths.FULL, -3);
        checks.due("NONE", SneakPaths.NONE, -9);
    }

    private void members() {
        checks.isTrue("the class is public and final", SneakPaths.class.getModifiers() == (Modifier.PUBLIC | Modifier.FINAL));
        Set<String> methods = new TreeSet<>();
        Set<String> hidden = new TreeSet<>();
        for (Method m : SneakPaths.class.getDeclaredMethods()) {
            if (Modifier.isPublic(m.getModifiers())) {
                checks.isTrue(m + " answers an int of ints", m.getReturnType() == int.class
                        && Arrays.stream(m.getParameterTypes()).allMatch(p -> p == int.class));
                methods.add(m.getName() + " " + m.getParameterCount());
            } else {
                checks.isTrue(m + " is private", Modifier.isPrivate(m.getModifiers()));
                hidden.add(m.getName());
            }
        }
        checks.isTrue("the methods are those of the document: " + methods, methods.equals(new TreeSet<>(Arrays.asList(METHODS))));
        for (String method : METHODS) {
            checks.isTrue("no private method is called " + method, !hidden.contains(method.split(" ")[0]));
        }
        for (Field f : SneakPaths.class.getDeclaredFields()) {
            boolean constant = Set.of("BAD", "STATE", "FULL", "NONE").contains(f.getName());
            checks.isTrue(f + " is public or private as it should be", constant ? Modifier.isPublic(f.getModifiers()) : Modifier.isPrivate(f.getModifiers()));
            checks.isTrue(f + " is final if it is static", !Modifier.isStatic(f.getModifiers()) || Modifier.isFinal(f.getModifiers()));
        }
        Constructor<?>[] made = SneakPaths.class.getDeclaredConstructors();
        checks.isTrue("one constructor, public, of nothing", made.length == 1 && Modifier.isPublic(made[0].getModifiers()) && made[0].getParameterCount() == 0);
    }

    private void nested() {
        Class<?>[] classes = SneakPaths.class.getDeclaredClasses();
        checks.isTrue("at most twelve classes", classes.length <= 11);
        for (Class<?> c : classes) {
            checks.isTrue(c + " is static and not public", Modifier.isStatic(c.getModifiers()) && !Modifier.isPublic(c.getModifiers()));
            long fields = Arrays.stream(c.getDeclaredFields()).filter(f -> !Modifier.isStatic(f.getModifiers())).count();
            checks.isTrue(c + " has at most twenty fields", fields <= 20);
            for (Method m : c.getDeclaredMethods()) {
                checks.isTrue(m + " has not the name of a public one",
                        Arrays.stream(METHODS).noneMatch(n -> n.split(" ")[0].equals(m.getName())));
            }
        }
    }

    private void words(List<String> lines) {
        Pattern outside = Pattern.compile("\\b(throw|throws|try|catch|synchronized|assert|import|package|static\\s*\\{|System\\.(?!arraycopy)\\w+|\\w+Exact)\\b|->|::");
        for (int i = 0; i < lines.size(); i++) {
            String code = lines.get(i).replaceAll("//.*|/\\*\\*.*|^\\s*\\*.*", "");
            Matcher m = outside.matcher(code);
            checks.isTrue("line " + (i + 1) + " keeps to the language: " + code, !m.find());
        }
    }

    /** Then no call makes an object, and the room is never filled by calls. */
    private void objectsAreMadeWithFields(List<String> lines) {
        for (int i = 0; i < lines.size(); i++) {
            String line = lines.get(i);
            if (line.matches(".*\\bnew\\b.*\\(.*|.*\\bnew\\b.*\\[.*")) {
                checks.isTrue("line " + (i + 1) + " makes an object outside a field: " + line, line.matches("\\s+(private )?final [\\w\\[\\]]+ \\w+ = .*;"));
            }
        }
    }

    private void methodsAreShort(List<String> lines) {
        Pattern head = Pattern.compile("^( {4}| {8})(public |private |static )*[\\w\\[\\]]+ \\w+\\(([^)]*)\\) \\{$");
        for (int i = 0; i < lines.size(); i++) {
            Matcher m = head.matcher(lines.get(i));
            if (!m.matches()) {
                continue;
            }
            int end = i;
            while (!lines.get(end).equals(m.group(1) + "}")) {
                end++;
            }
            checks.isTrue("the method at line " + (i + 1) + " is short", end - i <= 60);
            checks.isTrue("the method at line " + (i + 1) + " takes seven at most", m.group(3).split(",").length <= 7);
        }
    }
}
