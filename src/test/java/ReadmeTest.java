import java.io.IOException;
import java.nio.file.Files;
import java.nio.file.Path;
import java.util.Arrays;
import java.util.regex.Matcher;
import java.util.regex.Pattern;

/** The calls that README.md shows answer what their comments say there, and are made here in its order. */
public final class ReadmeTest extends Calls {
    private static final Pattern SHOWN = Pattern.compile("^x\\.(\\w+)\\(([^)]*)\\); *// (-?\\d+)");

    static int[] numbersOf(String text) {
        if (text.isBlank()) return new int[0];
        return Arrays.stream(text.split(", *")).mapToInt(ReadmeTest::number).toArray();
    }

    static int number(String t) {
        if (t.startsWith("0x")) return (int) Long.parseLong(t.substring(2), 16);
        if (t.startsWith("0b")) return Integer.parseInt(t.substring(2), 2);
        return Integer.parseInt(t);
    }

    static long answer(MenuPlanner x, String name, int[] n) {
        switch (name) {
            case "command": return x.command(n[0], n[1]);
            case "plan": return x.plan();
            case "print": return x.print();
            case "free": return x.free();
            case "steps": return x.steps(n[0]);
            case "place": return x.place(n[0], n[1]);
            case "misled": return x.misled(n[0]);
            case "feed": return x.feed(n[0], n[1], n[2], n[3], n[4]);
            case "tell": return x.tell(n[0]);
            case "best": return x.best(n[0]);
            case "exchange": return x.exchange(n[0], n[1], n[2]);
            case "swap": return x.swap(n[0], n[1]);
            case "fault": return x.fault();
            default: throw new IllegalArgumentException("README.md shows a call that ReadmeTest does not know: " + name);
        }
    }

    public static void main(String[] args) throws IOException {
        MenuPlanner x = new MenuPlanner();
        int shown = 0;
        for (String line : Files.readAllLines(Path.of("README.md"))) {
            Matcher m = SHOWN.matcher(line);
            if (!m.find()) continue;
            due("README.md: " + line, answer(x, m.group(1), numbersOf(m.group(2))), Long.parseLong(m.group(3)));
            shown++;
        }
        due("calls that README.md shows", shown, 18);
        end("ReadmeTest");
    }
}
