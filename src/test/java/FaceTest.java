import java.io.IOException;
import java.lang.management.ManagementFactory;
import java.lang.reflect.Constructor;
import java.lang.reflect.Field;
import java.lang.reflect.Method;
import java.lang.reflect.Modifier;
import java.nio.file.Files;
import java.nio.file.Path;
import java.util.Arrays;
import java.util.List;
import java.util.Set;
import java.util.TreeSet;

/** The face and the rules of LANGUAGE.md that can be seen from outside, and the room that calls take. */
public final class FaceTest {
    private static final Due DUE = new Due();

    public static void main(String[] args) throws IOException {
        theFaceIsTheDocuments();
        nothingElseIsVisible();
        theSourceKeepsToTheRules();
        callsTakeNoRoom();
        DUE.end("FaceTest");
    }

    private static void theFaceIsTheDocuments() {
        Set<String> want = new TreeSet<>(List.of(
            "boolean link(int, int, int)", "boolean kill(int)", "int repair()",
            "int send(int, int, int, int)", "int tick(int)", "int node(int, int)", "int next(int, int)",
            "int known(int, int)", "int delivered(int, int)", "int count(int)"));
        Set<String> got = new TreeSet<>();
        for (Method method : TrickleMesh.class.getDeclaredMethods()) {
            if (Modifier.isPublic(method.getModifiers())) {
                String types = Arrays.toString(method.getParameterTypes());
                got.add(method.getReturnType() + " " + method.getName()
                    + "(" + types.substring(1, types.length() - 1) + ")");
            }
        }
        DUE.is("the public methods are " + got, got.equals(want), true);
        DUE.is("final", Modifier.isFinal(TrickleMesh.class.getModifiers()), true);
        DUE.is("BAD", TrickleMesh.BAD, -1);
        Constructor<?>[] constructors = TrickleMesh.class.getDeclaredConstructors();
        DUE.is("constructors", constructors.length, 1);
        DUE.is("its numbers", constructors[0].getParameterCount(), 3);
    }

    private static void nothingElseIsVisible() {
        Set<String> visible = new TreeSet<>();
        for (Method method : TrickleMesh.class.getDeclaredMethods()) {
            if (Modifier.isPrivate(method.getModifiers())) {
                DUE.is("few parameters: " + method, method.getParameterCount() <= 7, true);
            } else {
                visible.add(method.getName());
            }
        }
        DUE.is("visible methods " + visible, visible.size(), 10);
        for (Method method : TrickleMesh.class.getDeclaredMethods()) {
            boolean hidden = Modifier.isPrivate(method.getModifiers());
            DUE.is("own name: " + method, hidden && visible.contains(method.getName()), false);
        }
        for (Field field : TrickleMesh.class.getDeclaredFields()) {
            int modifiers = field.getModifiers();
            boolean open = !Modifier.isPrivate(modifiers);
            DUE.is("visible: " + field, open, field.getName().equals("BAD"));
            DUE.is("static, not final: " + field,
                Modifier.isStatic(modifiers) && !Modifier.isFinal(modifiers), false);
        }
        for (Class<?> inside : TrickleMesh.class.getDeclaredClasses()) {
            DUE.is("static: " + inside, Modifier.isStatic(inside.getModifiers()), true);
            DUE.is("fields of " + inside, inside.getDeclaredFields().length <= 20, true);
        }
    }

    private static void theSourceKeepsToTheRules() throws IOException {
        String source = Files.readString(Path.of("src/main/java/TrickleMesh.java"));
        for (String banned : new String[] {"package ", "->", "::", "throw ", "try ", "synchronized", "assert ",
            "Exact(", "Random", "System.nano", "System.current", "System.out", "protected ", "var "}) {
            DUE.is("'" + banned + "' in the source", source.contains(banned), false);
        }
        int imports = source.split("\nimport |^import ", -1).length - 1;
        DUE.is("imports", imports, 1);
        DUE.is("import of Arrays", source.startsWith("import java.util.Arrays;"), true);
    }

    /** The dearest calls, as many as an object is used for: they make no objects at all. */
    private static void callsTakeNoRoom() {
        if (!(ManagementFactory.getThreadMXBean() instanceof com.sun.management.ThreadMXBean bean)) {
            return;
        }
        TrickleMesh mesh = new TrickleMesh(5, 200, 9);
        for (int a = 0; a < 7; a++) {
            for (int b = 0; b < a; b++) {
                mesh.link(a, b, 1 + (a + b) % 9);
            }
        }
        bean.getThreadAllocatedBytes(Thread.currentThread().getId());
        long before = bean.getThreadAllocatedBytes(Thread.currentThread().getId());
        for (int i = 0; i < 122; i++) {
            mesh.repair();
            mesh.send(i % 7, (i + 1) % 7, 15, i);
            mesh.tick(100);
            mesh.delivered(i % 7, 0);
        }
        long taken = bean.getThreadAllocatedBytes(Thread.currentThread().getId()) - before;
        DUE.is("bytes taken by all calls are few: " + taken, taken < 4096, true);
    }
}
