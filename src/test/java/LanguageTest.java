import java.io.IOException;
import java.lang.management.ManagementFactory;
import java.lang.reflect.Array;
import java.lang.reflect.Field;
import java.lang.reflect.Method;
import java.lang.reflect.Modifier;
import java.nio.file.Files;
import java.nio.file.Path;
import java.util.HashSet;
import java.util.IdentityHashMap;
import java.util.Map;
import java.util.Set;
import java.util.TreeSet;
import java.util.regex.Matcher;
import java.util.regex.Pattern;

/** What of LANGUAGE.md can be seen from outside: the face, words that are not used, the room taken. */
public final class LanguageTest {
    private static final Due DUE = new Due("LanguageTest");
    private static final String FACE = "act:3 back:0 body:1 byTurns:4 cold:2 count:1 drawn:3 element:2 feed:1 felt:3 "
        + "first:1 house:2 houses:3 image:0 judge:1 keep:2 later:3 law:0 led:1 mend:3 month:0 of:2 often:2 patches:1 "
        + "pull:1 pulls:2 put:3 redo:0 row:3 shake:1 shakes:1 shift:5 stuff:2 stuffs:2 taken:2 trace:1 undo:0 walk:2";

    public static void main(String[] args) throws IOException, IllegalAccessException {
        face();
        nestedClasses();
        words(Files.readString(Path.of("src/main/java/EiderClimate.java")));
        room();
        callsMakeNothing();
        DUE.end();
    }

    private static void face() {
        DUE.holds("public final", Modifier.isPublic(EiderClimate.class.getModifiers())
            && Modifier.isFinal(EiderClimate.class.getModifiers()));
        DUE.is("constructors", EiderClimate.class.getDeclaredConstructors().length, 1);
        DUE.is("public constructors", EiderClimate.class.getConstructors().length, 1);
        Set<String> methods = new TreeSet<>();
        for (Method method : EiderClimate.class.getDeclaredMethods()) {
            if (Modifier.isPublic(method.getModifiers())) {
                methods.add(method.getName() + ":" + method.getParameterCount());
                DUE.holds(method.getName() + " is of the object", !Modifier.isStatic(method.getModifiers()));
                Class<?> due = method.getName().equals("element") ? long.class : int.class;
                DUE.holds(method.getName() + " answers a number", method.getReturnType() == due);
            } else {
                DUE.holds(method.getName() + " is private", Modifier.isPrivate(method.getModifiers()));
            }
        }
        DUE.holds("the face is " + methods, String.join(" ", methods).equals(FACE));
        Set<String> constants = new TreeSet<>();
        for (Field field : EiderClimate.class.getDeclaredFields()) {
            if (!Modifier.isPrivate(field.getModifiers())) {
                constants.add(field.getName());
            }
        }
        DUE.holds("constants are " + constants, constants.equals(Set.of("BAD", "NOT", "FULL", "STATE", "VOID")));
    }

    private static void nestedClasses() {
        Set<String> open = new HashSet<>();
        for (String call : FACE.split(" ")) {
            open.add(call.substring(0, call.indexOf(':')));
        }
        DUE.holds("some twelve classes", EiderClimate.class.getDeclaredClasses().length <= 11);
        for (Class<?> inside : EiderClimate.class.getDeclaredClasses()) {
            DUE.holds(inside + " is static", Modifier.isStatic(inside.getModifiers()));
            looksRight(inside, open);
        }
        looksRight(EiderClimate.class, Set.of());
    }

    private static void looksRight(Class<?> type, Set<String> open) {
        int fields = 0;
        for (Field field : type.getDeclaredFields()) {
            if (!Modifier.isStatic(field.getModifiers())) {
                fields++;
            } else {
                DUE.holds(field + " is final", Modifier.isFinal(field.getModifiers()));
            }
        }
        DUE.holds(type + " has few fields", fields <= 20);
        for (Method method : type.getDeclaredMethods()) {
            DUE.holds(method + " bears a name of its own", !open.contains(method.getName()));
            DUE.holds(method + " takes few", method.getParameterCount() <= 7);
        }
    }

    private static void words(String source) {
        String code = source.replaceAll("(?s)/\\*.*?\\*/", "").replaceAll("//[^\n]*", "")
            .replaceAll("'(\\\\.|[^'])'", "' '").replaceAll("\"(\\\\.|[^\"])*\"", "\" \"");
        Matcher word = Pattern.compile("\\b(throw|throws|try|catch|synchronized|assert|instanceof|import|package|native"
            + "|volatile|transient|double|float|char|Object|protected|var|yield|goto|hashCode|equals|toString"
            + "|Exact|Thread|Random|clock|nanoTime|currentTimeMillis)\\b|->|::|@|while \\(true\\)|for \\(;;\\)").matcher(code);
        while (word.find()) {
            DUE.holds("not used: " + word.group(), false);
        }
        DUE.holds("no other word is looked for", code.contains("class EiderClimate"));
        int from = 0;
        int line = 0;
        for (String text : source.split("\n")) {
            line++;
            if (text.matches(" {4}( {4})?[a-z].*\\) \\{") && !text.contains(" class ")) {
                from = line;
            }
            if (text.matches(" {4}( {4})?\\}") && from > 0) {
                DUE.holds("the method at " + from + " is short", line - from <= 60);
                from = 0;
            }
            DUE.holds("line " + line + " is not too long", text.length() <= 120);
        }
    }

    private static void room() throws IllegalAccessException {
        Map<Object, Object> seen = new IdentityHashMap<>();
        long elements = elementsOf(new EiderClimate(), seen);
        System.out.println("LanguageTest: a new one takes " + seen.size() + " objects, " + elements + " elements");
        DUE.holds("few objects", seen.size() < 100);
        DUE.holds("few elements", elements < 4000);
    }

    private static long elementsOf(Object object, Map<Object, Object> seen) throws IllegalAccessException {
        if (object == null || seen.put(object, object) != null) {
            return 0;
        }
        long elements = 0;
        if (object.getClass().isArray()) {
            elements = Array.getLength(object);
            if (object instanceof Object[] parts) {
                for (Object part : parts) {
                    elements += elementsOf(part, seen);
                }
            }
            return elements;
        }
        for (Field field : object.getClass().getDeclaredFields()) {
            if (!Modifier.isStatic(field.getModifiers())) {
                field.setAccessible(true);
                elements += 1 + (field.getType().isPrimitive() ? 0 : elementsOf(field.get(object), seen));
            }
        }
        return elements;
    }

    /** The dearest calls, 512 times over, in a room that would be full soon if they made anything. */
    private static void callsMakeNothing() {
        EiderClimate x = new EiderClimate();
        for (int i = 0; i < 8; i++) {
            x.house(3 * i, 90);
        }
        for (int square = 0; square < 30; square++) {
            x.mend(square, 0, 1 + square % 4);
            x.mend(square, 1, square % 10);
        }
        x.row(0, 0, 60);
        for (int i = 0; i < 8; i++) {
            x.body(i);
        }
        dearCalls(x);
        com.sun.management.ThreadMXBean threads = (com.sun.management.ThreadMXBean) ManagementFactory.getThreadMXBean();
        long before = threads.getCurrentThreadAllocatedBytes();
        for (int i = 0; i < 100; i++) {
            dearCalls(x);
        }
        long made = threads.getCurrentThreadAllocatedBytes() - before;
        DUE.holds("calls make nothing, made " + made + " bytes", made < 4096);
    }

    private static void dearCalls(EiderClimate x) {
        x.feed('s');
        x.feed('*');
        x.feed('t');
        x.law();
        x.later(48, 0, 0);
        x.cold(48, 1);
        x.first(0);
        x.often(0, 48);
        x.pulls(0, 0);
        x.shakes(0);
        x.stuffs(2, 0);
        x.judge(0);
        x.felt(0, 0, 3);
        x.walk(29, 0);
        x.patches(0);
        x.byTurns(1, 1, 4, 0);
        x.drawn(1, 524, -1);
        x.month();
        x.pull(0);
        x.shake(7);
        x.stuff(7, 49);
        x.image();
        x.back();
        x.mend(0, 1, 3);
        x.mend(0, 1, 4);
        x.undo();
        x.redo();
        x.act(7, 3, 1);
        x.keep(1, 0);
        x.row(1, 2, 60);
        x.put(1, 1, 1);
        x.shift(1, 0, 1, 1, 50);
        x.taken(1, 0);
        x.houses(2, 0, 8);
    }
}
