import java.io.IOException;
import java.lang.management.ManagementFactory;
import java.lang.reflect.Constructor;
import java.lang.reflect.Field;
import java.lang.reflect.Method;
import java.lang.reflect.Modifier;
import java.nio.file.Files;
import java.nio.file.Path;
import java.util.Arrays;
import java.util.TreeSet;
import java.util.regex.Pattern;

/** The public face, and those rules of LANGUAGE.md that can be seen from outside; run in the project's folder. */
public final class FaceTest {
    private static final String[] FACE = {"int height(int, int)", "int cell(int, int)", "int interest(int)",
        "int tide(int, int)", "int purse(int, int)", "int thing(int, int)", "int of(int, int)", "int set(int, int, int)",
        "int turn(int, int)", "int as(int, int)", "int lay(int, int)", "int fetch(int)", "long days(int)", "int now(int)",
        "int on(int, int)", "int taken(int)", "int home(int)", "int due()", "int spot(int, int)",
        "int delay(int, int, int)", "int kind(int, int)", "int worth(int, int, int)", "int richest(int)",
        "int fewest(int, int, int)", "int rate(int, int)", "int feed(int, int)", "int wipe()", "int shore()",
        "int sheet(int, int, int)", "long write(int, int, long)", "int copy(int, int, int, int, int)", "int lays(int)",
        "int book(int, int)", "int read(int, int, int)", "int image()", "int undo()", "int tear()", "int count(int)",
        "int status(int)"};
    private static final String FORBIDDEN = "\\b(throw|throws|try|catch|synchronized|assert|import|native|volatile"
        + "|transient|Exact|System\\.(out|err|in|exit|nano|current)|Random|Thread)\\b|->|::";

    private static final Check check = new Check("FaceTest");

    public static void main(String[] args) throws IOException {
        face();
        nested();
        source();
        room();
        check.end();
    }

    private static void face() {
        check.due("public and final", TideLoans.class.getModifiers(), Modifier.PUBLIC | Modifier.FINAL);
        TreeSet<String> names = new TreeSet<>();
        TreeSet<String> open = new TreeSet<>();
        for (Method m : TideLoans.class.getDeclaredMethods()) {
            if (Modifier.isPublic(m.getModifiers())) {
                open.add(told(m));
                names.add(m.getName());
                check.due(m.getName() + " is no static one", m.getModifiers() & Modifier.STATIC, 0);
            }
        }
        check.due("the face is " + open, open.equals(new TreeSet<>(Arrays.asList(FACE))) ? 1 : 0, 1);
        for (Method m : TideLoans.class.getDeclaredMethods()) {
            if (!Modifier.isPublic(m.getModifiers())) {
                check.due(m.getName() + " is private", m.getModifiers() & Modifier.PRIVATE, Modifier.PRIVATE);
                check.due(m.getName() + " is no name of the face", names.contains(m.getName()) ? 1 : 0, 0);
            }
            check.due("parameters of " + m.getName(), m.getParameterCount() > 7 ? 1 : 0, 0);
        }
        Constructor<?>[] made = TideLoans.class.getDeclaredConstructors();
        check.due("constructors", made.length, 1);
        check.due("it takes nothing", made[0].getParameterCount(), 0);
        check.due("it is public", made[0].getModifiers(), Modifier.PUBLIC);
        for (Field f : TideLoans.class.getDeclaredFields()) {
            check.due(f.getName() + " is private", f.getModifiers() & Modifier.PRIVATE, Modifier.PRIVATE);
        }
    }

    private static String told(Method m) {
        String[] takes = Arrays.stream(m.getParameterTypes()).map(Class::getName).toArray(String[]::new);
        return m.getReturnType().getName() + " " + m.getName() + "(" + String.join(", ", takes) + ")";
    }

    private static void nested() {
        Class<?>[] inside = TideLoans.class.getDeclaredClasses();
        check.due("classes", inside.length + 1 > 12 ? 1 : 0, 0);
        for (Class<?> c : inside) {
            check.due(c + " is static", c.getModifiers() & Modifier.STATIC, Modifier.STATIC);
            staticsAreFinal(c);
        }
        staticsAreFinal(TideLoans.class);
    }

    private static void staticsAreFinal(Class<?> c) {
        for (Field f : c.getDeclaredFields()) {
            if (Modifier.isStatic(f.getModifiers())) {
                check.due(f + " is final", f.getModifiers() & Modifier.FINAL, Modifier.FINAL);
            }
        }
    }

    private static void source() throws IOException {
        String text = Files.readString(Path.of("src/main/java/TideLoans.java"));
        String code = text.replaceAll("(?s)/\\*.*?\\*/", "").replaceAll("//[^\n]*", "");
        Pattern forbidden = Pattern.compile(FORBIDDEN);
        for (String line : code.split("\n")) {
            check.due("no such word may stand in: " + line.strip(), forbidden.matcher(line).find() ? 1 : 0, 0);
        }
    }

    /** Calls make no objects: only the constructor does, and few. */
    private static void room() {
        com.sun.management.ThreadMXBean bean =
            (com.sun.management.ThreadMXBean) ManagementFactory.getThreadMXBean();
        callAll(new TideLoans());
        TideLoans x = new TideLoans();
        bean.getCurrentThreadAllocatedBytes();
        long before = bean.getCurrentThreadAllocatedBytes();
        callAll(x);
        long bytes = bean.getCurrentThreadAllocatedBytes() - before;
        check.due("calls made " + bytes + " bytes of objects", bytes > 2000 ? 1 : 0, 0);
    }

    private static void callAll(TideLoans x) {
        for (int i = 0; i < 10; i++) {
            x.thing(i % 6, i % 4);
            x.lay(i, i);
        }
        x.sheet(0, 64, 40);
        for (int i = 0; i < 25; i++) {
            x.spot(i % 10, 100);
            x.delay(i % 10, 3, 60);
            x.kind(i % 10, 100);
            x.worth(i % 10, 40, 999999);
            x.richest(400);
            x.fewest(i % 4, 40, 999999);
            x.rate(100, 999999);
            x.on(0, 400);
            x.taken(i % 10);
            x.home(i % 10);
            x.due();
            x.book(0, 0);
            x.read(0, 0, i % 10);
            x.lays(0);
            x.image();
            x.undo();
            x.feed('a' << 8 | 't', 2);
            x.shore();
            x.days(1);
        }
    }
}
