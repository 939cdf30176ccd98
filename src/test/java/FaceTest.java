import java.lang.management.ManagementFactory;
import java.lang.reflect.Constructor;
import java.lang.reflect.Field;
import java.lang.reflect.Method;
import java.lang.reflect.Modifier;
import java.nio.charset.StandardCharsets;
import java.nio.file.Files;
import java.nio.file.Path;
import java.util.Set;
import java.util.TreeSet;

/** The face as the document tells it, and what of LANGUAGE.md can be seen from outside. */
public final class FaceTest {
    private static final Check check = new Check("FaceTest");
    private static final String FACE = "write1 wipe0 fault0 lay0 block2 word1 speaker2 heard2 promised2 worth3 say3 promise3 "
        + "take2 pass1 undo0 least2 best1 order1 days2 frost1 uses1 harm1 liars0 said3 deaf6 year3 keep0 back0 count1";
    private static final String[] RULED_OUT = {"package ", "catch", "finally", "synchronized", "assert ", "::", "System.out", "System.err",
        "java.io", "java.nio", "java.time", "java.net", "Random", "random", "Thread", "nanoTime", "Millis", "static {", "Exact(", "while (true)", "for (;;)"};

    public static void main(String[] args) throws Exception {
        members();
        inside();
        source(Files.readString(Path.of(args[0]), StandardCharsets.UTF_8));
        room();
        check.end();
    }

    private static void members() {
        Class<?> c = StoneApologies.class;
        check.due("public final", c.getModifiers(), Modifier.PUBLIC | Modifier.FINAL);
        Set<String> face = new TreeSet<>();
        Set<String> names = new TreeSet<>();
        for (Method m : c.getDeclaredMethods()) {
            if (Modifier.isPrivate(m.getModifiers())) {
                names.add(m.getName());
                continue;
            }
            face.add(m.getName() + m.getParameterCount());
            check.due(m + " is public alone", m.getModifiers(), Modifier.PUBLIC);
            check.due(m + " answers an int", m.getReturnType() == int.class ? 1 : 0, 1);
            for (Class<?> p : m.getParameterTypes()) check.due(m + " takes ints", p == int.class ? 1 : 0, 1);
            check.due(m + " throws nothing", m.getExceptionTypes().length, 0);
        }
        check.due("the face " + face, face.equals(new TreeSet<>(Set.of(FACE.split(" ")))) ? 1 : 0, 1);
        for (String name : names) check.due("private " + name, inFace(name) ? 1 : 0, 0);
        for (Constructor<?> k : c.getDeclaredConstructors()) {
            check.due("the constructor", k.getModifiers() == Modifier.PUBLIC && k.getParameterCount() == 0 ? 1 : 0, 1);
        }
        Set<String> constants = new TreeSet<>();
        for (Field f : c.getDeclaredFields()) {
            if (Modifier.isPublic(f.getModifiers())) constants.add(f.getName());
            else check.due(f + " is private", Modifier.isPrivate(f.getModifiers()) ? 1 : 0, 1);
        }
        check.due("the constants " + constants, constants.equals(Set.of("BAD", "NO", "FULL", "NONE")) ? 1 : 0, 1);
    }

    private static boolean inFace(String name) {
        return (" " + FACE).matches(".* " + name.replace("$", "") + "\\d.*");
    }

    private static void inside() {
        Class<?>[] classes = StoneApologies.class.getDeclaredClasses();
        check.due("some dozen classes at most", classes.length <= 12 ? 1 : 0, 1);
        for (Class<?> c : classes) {
            check.due(c + " is static", Modifier.isStatic(c.getModifiers()) ? 1 : 0, 1);
            int fields = 0;
            for (Field f : c.getDeclaredFields()) {
                if (Modifier.isStatic(f.getModifiers())) check.due(f + " is final", Modifier.isFinal(f.getModifiers()) ? 1 : 0, 1);
                else fields++;
            }
            check.due(c + " has twenty fields at most", fields <= 20 ? 1 : 0, 1);
            for (Method m : c.getDeclaredMethods()) {
                check.due(m + " takes seven at most", m.getParameterCount() <= 7 ? 1 : 0, 1);
                if (!Modifier.isPrivate(m.getModifiers())) continue;
                check.due(m + " is named otherwise than the face", inFace(m.getName()) ? 1 : 0, 0);
            }
        }
    }

    private static void source(String text) {
        for (String word : RULED_OUT) check.due("'" + word + "' in the source", text.indexOf(word), -1);
        int signs = 0;
        for (int i = 0; i < text.length(); i++) signs += text.charAt(i) > 126 ? 1 : 0;
        check.due("signs beyond ASCII", signs, 0);
        if (text.contains("private static int at(int[] row, int i)")) indices(text);
    }

    /** What is read or set by an index stands behind a test of that index, in the helpers or a loop over the row: none goes round them. */
    private static void indices(String text) {
        int guarded = 0;
        for (String line : text.split("\n")) {
            String code = line.replaceAll("int\\[\\]|Quarry\\[\\]|new \\w+\\[.*\\]", "");
            if (!code.matches(".*\\w\\[.*")) continue;
            guarded++;
            check.due("an index untested: " + line.trim(), code.contains(".length") ? 1 : 0, 1);
        }
        check.due("lines with an index", guarded > 0 ? 1 : 0, 1);
    }

    /** What a run makes is counted: of the room for some 7 million numbers, the dearest calls of one object take a part at most. */
    private static void room() {
        if (!(ManagementFactory.getThreadMXBean() instanceof com.sun.management.ThreadMXBean)) return;
        com.sun.management.ThreadMXBean bean = (com.sun.management.ThreadMXBean) ManagementFactory.getThreadMXBean();
        StoneApologies x = Check.laid("b0,60;b1,60;b2,60;b3,60;b0,60;b1,60;w9;w9;w9;w9;w9;w9;s0,2;s0,2;s0,2;s0,2;");
        long id = Thread.currentThread().getId();
        int sum = calls(x, 0);
        long ahead = bean.getThreadAllocatedBytes(id);
        for (int i = 0; i < 16; i++) sum += calls(x, i);
        long made = bean.getThreadAllocatedBytes(id) - ahead;
        check.due("bytes made by 384 calls (" + made + ", " + sum + ")", made < 1 << 23 ? 1 : 0, 1);
    }

    private static int calls(StoneApologies x, int i) {
        int sum = x.order(-1) + x.least(i % 6, 0) + x.days(i % 6, i % 4) + x.deaf(0, i % 6, 0, 8, 3, 0) + x.year(i, 60, 0);
        sum += x.fault() + x.liars() + x.said(0, 9, 0) + x.harm(0) + x.uses(0) + x.frost(0) + x.best(0) + x.worth(0, 0, 0);
        sum += x.say(0, 0, 0) + x.promise(0, 0, 1) + x.pass(1) + x.take(0, 0) + x.keep() + x.undo() + x.back() + x.lay();
        return sum + x.count(8) + x.write('b') + x.wipe();
    }
}
