import java.lang.reflect.Method;
import java.nio.charset.StandardCharsets;
import java.util.Arrays;
import java.util.Comparator;
import java.util.stream.IntStream;

/** What the directed tests share: the answer that is due, texts on the TAPE, and all that an object tells. */
abstract class Calls {
    static final String ARGUMENT = "IllegalArgumentException";
    static final String STATE = "IllegalStateException";
    static final String BOUNDS = "IndexOutOfBoundsException";
    static final int LEAST = Integer.MIN_VALUE;
    static final int GREATEST = Integer.MAX_VALUE;

    private static int wrong = 0;

    interface Call {
        long answer();
    }

    interface CallOf {
        long answer(int number);
    }

    static void due(String what, long got, long want) {
        due(what, Long.toString(got), Long.toString(want));
    }

    static void due(String what, String got, String want) {
        if (!got.equals(want)) {
            wrong++;
            System.out.println(what + " answered " + got + ", due is " + want);
        }
    }

    static void refused(String what, String want, Call call) {
        String got = "nothing";
        try {
            call.answer();
        } catch (RuntimeException e) {
            got = e.getClass().getSimpleName();
        }
        if (!got.equals(want)) {
            wrong++;
            System.out.println(what + " threw " + got + ", due is " + want);
        }
    }

    /** Every method of a test that takes nothing is a sentence's test, so that none is left out. */
    static void runAll(Class<?> test) throws ReflectiveOperationException {
        Method[] methods = test.getDeclaredMethods();
        Arrays.sort(methods, Comparator.comparing(Method::getName));
        int ran = 0;
        for (Method method : methods) {
            if (method.isSynthetic() || method.getParameterCount() > 0 || method.getReturnType() != void.class) continue;
            method.setAccessible(true);
            method.invoke(null);
            ran++;
        }
        end(test.getName() + " (" + ran + " sentences)");
    }

    static void end(String test) {
        System.out.println(test + ": " + (wrong == 0 ? "all answers are as due" : wrong + " answers are not as due"));
        if (wrong != 0) System.exit(1);
    }

    static MenuPlanner with(int... counts) {
        MenuPlanner x = new MenuPlanner();
        for (int c : counts) x.command(c, 0);
        return x;
    }

    static MenuPlanner equalOnes(int n) {
        MenuPlanner x = new MenuPlanner();
        for (int c = 0; c < n; c++) x.command(1, 0);
        return x;
    }

    static void feedText(MenuPlanner x, String text) {
        byte[] b = text.getBytes(StandardCharsets.ISO_8859_1);
        for (int from = 0; from < b.length; from += 20) {
            int[] n = new int[5];
            for (int i = 0; i < 20; i++) n[i / 4] = n[i / 4] << 8 | (from + i < b.length ? b[from + i] & 255 : 0);
            x.feed(n[0], n[1], n[2], n[3], n[4]);
        }
    }

    static int tellText(MenuPlanner x, String text) {
        feedText(x, text);
        return x.tell(text.length());
    }

    static void faulty(MenuPlanner x, String text, int number, int place) {
        due("tell of " + text, tellText(x, text), number - 10);
        due("fault of " + text, x.fault(), place);
    }

    static void told(String text, MenuPlanner x) {
        due("tell of " + text, tellText(x, text), 0);
        due("fault of " + text, x.fault(), -1);
    }

    static String printed(MenuPlanner x) {
        x.print();
        return page(x);
    }

    static String page(MenuPlanner x) {
        StringBuilder text = new StringBuilder();
        int length = x.told(3);
        for (int k = 0; k < length; k++) text.append((char) x.octet(k));
        return text.toString();
    }

    /** The COMMANDS from..to-1 with a blank between each two. */
    static String numbers(int from, int to) {
        StringBuilder text = new StringBuilder();
        for (int c = from; c < to; c++) text.append(c == from ? "" : " ").append(c);
        return text.toString();
    }

    /** The COMMANDS in order, each but the last two in a MENU of the one before: (0 (1 (2 3))). */
    static String chain(int... commands) {
        int last = commands.length - 1;
        StringBuilder text = new StringBuilder();
        for (int i = 0; i < last; i++) text.append(i == 0 ? "(" : " (").append(commands[i]);
        return text.append(' ').append(commands[last]).append(")".repeat(last)).toString();
    }

    static String chainOf40() {
        return chain(IntStream.range(0, 40).toArray());
    }

    /** As many LISTS as the COMMANDS from..to-1 can have, none of them deep. */
    static String balanced(int from, int to) {
        if (to - from == 1) return Integer.toString(from);
        int middle = (from + to) / 2;
        return "(" + balanced(from, middle) + " " + balanced(middle, to) + ")";
    }

    /** All that can be asked of an object but the TAPE's bytes; what is changed to ask it is put back. */
    static String state(MenuPlanner x) {
        StringBuilder text = new StringBuilder("told");
        for (int what = 0; what < 4; what++) text.append(' ').append(x.told(what));
        text.append("; fault ").append(x.fault()).append("; cost ").append(x.cost());
        text.append("; page ").append(page(x)).append("; set");
        for (int what = 0; what < 4; what++) {
            int v = x.set(what, 2);
            x.set(what, v);
            text.append(' ').append(v);
        }
        int commands = x.told(0);
        for (int c = 0; c < commands; c++) text.append("; ").append(commandState(x, c));
        text.append("; free ").append(x.free()).append("; best ").append(x.best(3));
        for (int i = 0; i < 3; i++) text.append(' ').append(x.exchange(3, i, 0)).append('-').append(x.exchange(3, i, 1));
        return text.toString();
    }

    private static String commandState(MenuPlanner x, int c) {
        int count = x.count(c, 1);
        x.count(c, count);
        int words = x.words(c, 1);
        x.words(c, words);
        StringBuilder text = new StringBuilder(c + ": " + count + " " + words + " " + x.steps(c) + " " + x.misled(c) + " at");
        int place = x.place(c, 0);
        for (int k = 1; k <= 40 && place != 0; k++) {
            text.append(' ').append(place);
            place = x.place(c, k);
        }
        return text.toString();
    }

    /** Calls that are refused for each of these numbers, and nothing changes. */
    static void refusedWhole(String what, String want, MenuPlanner x, int[] numbers, CallOf call) {
        String before = state(x);
        for (int number : numbers) refused(what + " " + number, want, () -> call.answer(number));
        due(what + ", what is told then", state(x), before);
    }

    /** A call that answers, and nothing changes. */
    static void idle(String what, long want, MenuPlanner x, Call call) {
        String before = state(x);
        due(what, call.answer(), want);
        due(what + ", what is told then", state(x), before);
    }

    static int[] these(int... numbers) {
        return numbers;
    }
}
