import java.lang.management.ManagementFactory;
import java.lang.reflect.Constructor;
import java.lang.reflect.Field;
import java.lang.reflect.Method;
import java.lang.reflect.Modifier;
import java.util.ArrayList;
import java.util.Arrays;
import java.util.List;
import java.util.TreeSet;

/** The class has the document's face and no more, and the dearest calls keep to the room. */
public final class FaceTest {
    private static final String[] FACE = {
        "int command(int, int) IllegalArgumentException IllegalStateException",
        "int count(int, int) IllegalArgumentException IndexOutOfBoundsException",
        "int words(int, int) IllegalArgumentException IndexOutOfBoundsException",
        "int set(int, int) IllegalArgumentException",
        "int feed(int, int, int, int, int)",
        "int tell(int) IllegalArgumentException",
        "int fault()",
        "long plan()",
        "long cost()",
        "int print()",
        "int octet(int)",
        "int steps(int) IndexOutOfBoundsException",
        "int place(int, int) IndexOutOfBoundsException",
        "int misled(int) IndexOutOfBoundsException",
        "long free()",
        "long best(int) IllegalArgumentException",
        "int exchange(int, int, int) IllegalArgumentException",
        "long swap(int, int) IndexOutOfBoundsException",
        "int told(int)",
    };

    private static int wrong = 0;

    static void due(String what, Object got, Object want) {
        if (!got.equals(want)) {
            wrong++;
            System.out.println(what + ": " + got + ", due is " + want);
        }
    }

    static String names(Class<?>[] types) {
        List<String> names = new ArrayList<>();
        for (Class<?> type : types) names.add(type.getSimpleName());
        return String.join(", ", names);
    }

    static void face() {
        Class<?> c = MenuPlanner.class;
        due("public and final", c.getModifiers() & (Modifier.PUBLIC | Modifier.FINAL), Modifier.PUBLIC | Modifier.FINAL);
        TreeSet<String> open = new TreeSet<>();
        TreeSet<String> openNames = new TreeSet<>();
        TreeSet<String> closedNames = new TreeSet<>();
        for (Method m : c.getDeclaredMethods()) {
            if (Modifier.isPrivate(m.getModifiers())) {
                closedNames.add(m.getName());
                continue;
            }
            TreeSet<String> thrown = new TreeSet<>(Arrays.asList(names(m.getExceptionTypes()).split(", ")));
            String text = m.getReturnType().getSimpleName() + " " + m.getName() + "(" + names(m.getParameterTypes()) + ")";
            open.add((text + " " + String.join(" ", thrown)).trim());
            openNames.add(m.getName());
            due(m.getName() + " is public", Modifier.isPublic(m.getModifiers()), true);
        }
        due("the methods", open, new TreeSet<>(Arrays.asList(FACE)));
        closedNames.retainAll(openNames);
        due("private methods named as public ones", closedNames.isEmpty(), true);
        for (Field f : c.getDeclaredFields()) {
            int m = f.getModifiers();
            if (Modifier.isStatic(m)) due(f.getName() + " is final", Modifier.isFinal(m), true);
            due(f.getName() + " is open", !Modifier.isPrivate(m), f.getName().equals("NONE"));
        }
        Constructor<?>[] made = c.getDeclaredConstructors();
        due("constructors", made.length, 1);
        due("its parameters", made[0].getParameterCount(), 0);
        due("it is public", Modifier.isPublic(made[0].getModifiers()), true);
        for (Class<?> inside : c.getDeclaredClasses()) {
            due(inside.getName() + " is static", Modifier.isStatic(inside.getModifiers()), true);
            due(inside.getName() + " is open", Modifier.isPublic(inside.getModifiers()) || Modifier.isProtected(inside.getModifiers()), false);
        }
        due("classes inside", c.getDeclaredClasses().length <= 11, true);
    }

    /** 512 of the dearest calls, each behind a change so that nothing kept can be told again. */
    static long dearCalls(int commands) {
        MenuPlanner x = new MenuPlanner();
        for (int c = 0; c < commands; c++) x.command(100 * c % 997, c);
        long sum = x.plan();
        for (int turn = 0; turn < 90; turn++) {
            x.count(turn % commands, turn);
            sum += x.plan() + x.free() + x.best(3) + x.misled(commands - 1) + x.print();
        }
        return sum;
    }

    /** The great tables are made once for an object: some 30,000 longs, not again for each call. */
    static void room() {
        com.sun.management.ThreadMXBean threads =
                (com.sun.management.ThreadMXBean) ManagementFactory.getThreadMXBean();
        if (!threads.isThreadAllocatedMemorySupported()) return;
        dearCalls(10);
        dearCalls(40);
        for (int commands : new int[] {10, 12, 40}) {
            long before = threads.getCurrentThreadAllocatedBytes();
            dearCalls(commands);
            long bytes = threads.getCurrentThreadAllocatedBytes() - before;
            due("an object with 512 calls is small (" + bytes + " bytes)", bytes < 400000, true);
        }
    }

    public static void main(String[] args) {
        face();
        room();
        System.out.println(wrong == 0 ? "FaceTest: all is as due" : "FaceTest: " + wrong + " are not as due");
        if (wrong != 0) System.exit(1);
    }
}
