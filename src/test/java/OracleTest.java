import java.util.ArrayList;
import java.util.Arrays;
import java.util.List;
import java.util.Random;

/**
 * Long runs of drawn calls (from fixed seeds) on MenuPlanner and on a slow model of the document
 * that lists all TREES, all orders and all rows of EXCHANGES. Every answer must be the same.
 */
public final class OracleTest {
    static final long ILLEGAL_ARGUMENT = Long.MIN_VALUE;
    static final long ILLEGAL_STATE = Long.MIN_VALUE + 1;
    static final long OUT_OF_BOUNDS = Long.MIN_VALUE + 2;

    /** An ITEM: a COMMAND, or a LIST of ITEMS. */
    static final class Node {
        int command = -1;
        List<Node> items = null;

        static Node of(int command) {
            Node node = new Node();
            node.command = command;
            return node;
        }

        static Node of(List<Node> items) {
            Node node = new Node();
            node.items = items;
            return node;
        }

        int leaves() {
            if (items == null) return 1;
            int sum = 0;
            for (Node n : items) sum += n.leaves();
            return sum;
        }

        int listCount() {
            if (items == null) return 0;
            int sum = 1;
            for (Node n : items) sum += n.listCount();
            return sum;
        }

        void collect(List<Node> into) {
            if (items == null) into.add(this);
            else for (Node n : items) n.collect(into);
        }

        List<Node> commands() {
            List<Node> all = new ArrayList<>();
            collect(all);
            return all;
        }

        void write(StringBuilder text) {
            if (items == null) {
                text.append(command);
                return;
            }
            text.append('(');
            for (int i = 0; i < items.size(); i++) {
                if (i > 0) text.append(' ');
                items.get(i).write(text);
            }
            text.append(')');
        }
    }

    static final class Fault extends Exception {
        private static final long serialVersionUID = 1L;
        final int number;
        final int place;

        Fault(int number, int place) {
            this.number = number;
            this.place = place;
        }
    }

    /** The document, done in the slowest way. */
    static final class Model {
        final List<Integer> counts = new ArrayList<>();
        final List<Integer> words = new ArrayList<>();
        final int[] settings = {1, 1, 4, 1};
        final List<Integer> tape = new ArrayList<>();
        String page = "";
        Node tree = null;
        int faultPlace = -1;

        long command(int count, int word) {
            if (count < 0 || count > 10000 || word < 0 || word >= 1 << 24) return ILLEGAL_ARGUMENT;
            if (counts.size() == 40) return ILLEGAL_STATE;
            counts.add(count);
            words.add(word);
            tree = null;
            return counts.size() - 1;
        }

        boolean lacks(int command) {
            return command < 0 || command >= counts.size();
        }

        long count(int command, int count) {
            if (lacks(command)) return OUT_OF_BOUNDS;
            if (count < 0 || count > 10000) return ILLEGAL_ARGUMENT;
            return counts.set(command, count);
        }

        long words(int command, int word) {
            if (lacks(command)) return OUT_OF_BOUNDS;
            if (word < 0 || word >= 1 << 24) return ILLEGAL_ARGUMENT;
            return words.set(command, word);
        }

        long set(int what, int v) {
            int[][] bounds = {{1, 100}, {0, 100}, {2, 9}, {0, 100}};
            if (what < 0 || what > 3 || v < bounds[what][0] || v > bounds[what][1]) return ILLEGAL_ARGUMENT;
            int before = settings[what];
            settings[what] = v;
            return before;
        }

        long feed(int[] numbers) {
            if (tape.size() + 20 > 400) return -1;
            for (int number : numbers) {
                for (int b = 3; b >= 0; b--) tape.add(number >> 8 * b & 255);
            }
            return tape.size();
        }

        long tell(int n) {
            if (n < 0 || n > tape.size()) return ILLEGAL_ARGUMENT;
            int[] text = new int[n];
            for (int i = 0; i < n; i++) text[i] = tape.get(i);
            tape.clear();
            try {
                tree = new Parser(text, counts.size(), settings[2]).whole();
                faultPlace = -1;
                return 0;
            } catch (Fault f) {
                faultPlace = f.place;
                return f.number - 10;
            }
        }

        void stepsInto(Node list, int base, int[] steps) {
            for (int p = 1; p <= list.items.size(); p++) {
                Node item = list.items.get(p - 1);
                int here = base + settings[0] * p;
                if (item.items == null) steps[item.command] = here;
                else stepsInto(item, here + settings[1], steps);
            }
        }

        int[] allSteps(Node root) {
            int[] steps = new int[counts.size()];
            stepsInto(root, 0, steps);
            return steps;
        }

        long costOf(Node root) {
            int[] steps = allSteps(root);
            long sum = 0;
            for (int c = 0; c < steps.length; c++) sum += (long) counts.get(c) * steps[c];
            return sum;
        }

        long plan() {
            if (counts.isEmpty()) return -1;
            Node best = null;
            for (Node root : trees(0, counts.size(), settings[2], 1)) {
                if (best == null || before(root, best)) best = root;
            }
            tree = best;
            return costOf(tree);
        }

        boolean before(Node a, Node b) {
            int by = Long.compare(costOf(a), costOf(b));
            if (by == 0) by = Integer.compare(a.listCount(), b.listCount());
            if (by == 0) by = shapeOrder(a, b);
            return by < 0;
        }

        static int shapeOrder(Node a, Node b) {
            if (a.items == null || b.items == null) return 0;
            for (int i = 0; i < a.items.size() && i < b.items.size(); i++) {
                int by = Integer.compare(a.items.get(i).leaves(), b.items.get(i).leaves());
                if (by != 0) return by;
            }
            for (int i = 0; i < a.items.size(); i++) {
                int by = shapeOrder(a.items.get(i), b.items.get(i));
                if (by != 0) return by;
            }
            return 0;
        }

        /** All LISTS over the COMMANDS from..to-1 in order, of fewest to breadth ITEMS. */
        static List<Node> trees(int from, int to, int breadth, int fewest) {
            List<Node> all = new ArrayList<>();
            for (int size = fewest; size <= breadth && size <= to - from; size++) {
                // a LIST of one MENU is looked at too, but not MENUS of one ITEM
                for (List<Node> items : rows(from, to, size, breadth)) all.add(Node.of(items));
            }
            return all;
        }

        static List<List<Node>> rows(int from, int to, int size, int breadth) {
            List<List<Node>> all = new ArrayList<>();
            if (size == 0) {
                if (from == to) all.add(new ArrayList<>());
                return all;
            }
            for (int cut = from + 1; cut <= to - (size - 1); cut++) {
                List<List<Node>> rest = rows(cut, to, size - 1, breadth);
                if (rest.isEmpty()) continue;
                List<Node> firsts = new ArrayList<>();
                if (cut - from == 1) firsts.add(Node.of(from));
                else firsts.addAll(trees(from, cut, breadth, 2));
                for (Node first : firsts) {
                    for (List<Node> others : rest) {
                        List<Node> row = new ArrayList<>();
                        row.add(first);
                        row.addAll(others);
                        all.add(row);
                    }
                }
            }
            return all;
        }

        long cost() {
            return tree == null ? -1 : costOf(tree);
        }

        long print() {
            if (tree == null) return -1;
            StringBuilder text = new StringBuilder();
            tree.write(text);
            page = text.toString();
            return page.length();
        }

        long octet(int k) {
            return k < 0 || k >= page.length() ? -1 : page.charAt(k);
        }

        long steps(int command) {
            if (lacks(command)) return OUT_OF_BOUNDS;
            return tree == null ? -1 : allSteps(tree)[command];
        }

        /** The LISTS on the way to a COMMAND, each with the place (from 0 on) of the ITEM on the way. */
        static boolean way(Node list, int command, List<Node> lists, List<Integer> places) {
            for (int i = 0; i < list.items.size(); i++) {
                Node item = list.items.get(i);
                lists.add(list);
                places.add(i);
                if (item.items == null ? item.command == command : way(item, command, lists, places)) return true;
                lists.remove(lists.size() - 1);
                places.remove(places.size() - 1);
            }
            return false;
        }

        long place(int command, int k) {
            if (lacks(command)) return OUT_OF_BOUNDS;
            if (tree == null) return 0;
            List<Integer> places = new ArrayList<>();
            way(tree, command, new ArrayList<>(), places);
            return k < 0 || k >= places.size() ? 0 : places.get(k) + 1;
        }

        int heading(Node item) {
            List<Node> members = item.commands();
            int heading = 0;
            for (int bit = 0; bit < 24; bit++) {
                int have = 0;
                for (Node m : members) have += words.get(m.command) >> bit & 1;
                if (have >= members.size() / 2.0) heading |= 1 << bit;
            }
            return item.items == null ? words.get(item.command) : heading;
        }

        long misled(int command) {
            if (lacks(command)) return OUT_OF_BOUNDS;
            if (tree == null) return -1;
            List<Node> lists = new ArrayList<>();
            List<Integer> places = new ArrayList<>();
            way(tree, command, lists, places);
            for (int k = 0; k < lists.size(); k++) {
                List<Node> items = lists.get(k).items;
                int own = Integer.bitCount(words.get(command) & heading(items.get(places.get(k))));
                for (int i = 0; i < items.size(); i++) {
                    if (i == places.get(k)) continue;
                    if (Integer.bitCount(words.get(command) & heading(items.get(i))) >= own) return k;
                }
            }
            return -1;
        }

        /** For every shape the greatest COUNT goes where the fewest STEPS are. */
        long free() {
            int n = counts.size();
            if (n == 0 || n > 10) return -1;
            int[] sorted = new int[n];
            for (int c = 0; c < n; c++) sorted[c] = counts.get(c);
            Arrays.sort(sorted);
            long least = Long.MAX_VALUE;
            for (Node root : trees(0, n, settings[2], 1)) {
                int[] steps = allSteps(root);
                Arrays.sort(steps);
                long sum = 0;
                for (int c = 0; c < n; c++) sum += (long) sorted[c] * steps[n - 1 - c];
                least = Math.min(least, sum);
            }
            return least;
        }

        long bestSum;
        List<int[]> bestRow;

        void findBest(int k) {
            bestSum = Long.MAX_VALUE;
            bestRow = null;
            tryRow(new ArrayList<>(), k, allSteps(tree), 0);
        }

        /** All rows, doing nothing and twice the same among them. */
        void tryRow(List<int[]> row, int k, int[] steps, long unlearned) {
            long sum = unlearned;
            for (int c = 0; c < steps.length; c++) sum += (long) counts.get(c) * steps[c];
            if (sum < bestSum || sum == bestSum && rowBefore(row, bestRow)) {
                bestSum = sum;
                bestRow = new ArrayList<>(row);
            }
            if (row.size() == k) return;
            for (int a = 0; a < steps.length; a++) {
                for (int b = a + 1; b < steps.length; b++) {
                    int[] then = steps.clone();
                    then[a] = steps[b];
                    then[b] = steps[a];
                    row.add(new int[] {a, b});
                    tryRow(row, k, then, unlearned + (long) settings[3] * (counts.get(a) + counts.get(b)));
                    row.remove(row.size() - 1);
                }
            }
        }

        static boolean rowBefore(List<int[]> a, List<int[]> b) {
            if (a.size() != b.size()) return a.size() < b.size();
            for (int i = 0; i < a.size(); i++) {
                int by = Arrays.compare(a.get(i), b.get(i));
                if (by != 0) return by < 0;
            }
            return false;
        }

        long best(int k) {
            if (k < 0 || k > 3) return ILLEGAL_ARGUMENT;
            if (tree == null || counts.size() > 12) return -1;
            findBest(k);
            return bestSum;
        }

        long exchange(int k, int i, int which) {
            if (k < 0 || k > 3 || which < 0 || which > 1) return ILLEGAL_ARGUMENT;
            if (tree == null || counts.size() > 12) return -1;
            findBest(k);
            return i < 0 || i >= bestRow.size() ? -1 : bestRow.get(i)[which];
        }

        long swap(int one, int other) {
            if (lacks(one) || lacks(other)) return OUT_OF_BOUNDS;
            if (tree == null) return -1;
            for (Node leaf : tree.commands()) {
                if (leaf.command == one) leaf.command = other;
                else if (leaf.command == other) leaf.command = one;
            }
            return costOf(tree);
        }

        long told(int what) {
            switch (what) {
                case 0: return counts.size();
                case 1: return tree == null ? 0 : tree.listCount() - 1;
                case 2: return tape.size();
                case 3: return page.length();
                default: return -1;
            }
        }
    }

    /** The grammar by going down; the first thing that is wrong is thrown. */
    static final class Parser {
        final int[] text;
        final int commands;
        final int breadth;
        final boolean[] had;
        int at = 0;

        Parser(int[] text, int commands, int breadth) {
            this.text = text;
            this.commands = commands;
            this.breadth = breadth;
            this.had = new boolean[commands];
        }

        void blanks() {
            while (at < text.length && text[at] == 32) at++;
        }

        boolean sees(int sign) {
            return at < text.length && text[at] == sign;
        }

        boolean digit() {
            return at < text.length && text[at] >= 48 && text[at] <= 57;
        }

        Node whole() throws Fault {
            blanks();
            if (!sees('(')) throw new Fault(1, at);
            Node root = list(1);
            blanks();
            if (at < text.length) throw new Fault(1, at);
            for (boolean h : had) if (!h) throw new Fault(6, text.length);
            return root;
        }

        Node list(int open) throws Fault {
            at++;
            List<Node> items = new ArrayList<>();
            while (true) {
                blanks();
                if (sees(')') && !items.isEmpty()) {
                    if (open > 1 && items.size() == 1) throw new Fault(5, at);
                    at++;
                    return Node.of(items);
                }
                if (!sees('(') && !digit()) throw new Fault(1, at);
                if (digit()) {
                    items.add(number(items.size()));
                } else {
                    if (items.size() == breadth || open == 40) throw new Fault(4, at);
                    items.add(list(open + 1));
                }
            }
        }

        Node number(int before) throws Fault {
            int from = at;
            java.math.BigInteger value = java.math.BigInteger.ZERO;
            for (; digit(); at++) {
                value = value.multiply(java.math.BigInteger.TEN).add(java.math.BigInteger.valueOf(text[at] - 48));
            }
            if (value.compareTo(java.math.BigInteger.valueOf(commands)) >= 0) throw new Fault(2, from);
            int c = value.intValue();
            if (had[c]) throw new Fault(3, from);
            if (before == breadth) throw new Fault(4, from);
            had[c] = true;
            return Node.of(c);
        }
    }

    interface Call {
        long answer();
    }

    static long answerOf(Call call) {
        try {
            return call.answer();
        } catch (RuntimeException e) {
            if (e.getClass() == IllegalArgumentException.class) return ILLEGAL_ARGUMENT;
            if (e.getClass() == IllegalStateException.class) return ILLEGAL_STATE;
            if (e.getClass() == IndexOutOfBoundsException.class) return OUT_OF_BOUNDS;
            throw e;
        }
    }

    static int wrong = 0;

    /** One object and its model, side by side. */
    static final class Pair {
        final MenuPlanner real = new MenuPlanner();
        final Model model = new Model();
        final String name;
        final StringBuilder log = new StringBuilder();

        Pair(String name) {
            this.name = name;
        }

        void same(String call, long got, long want) {
            log.append(call).append(" -> ").append(want).append('\n');
            if (got != want) {
                wrong++;
                if (wrong <= 3) System.out.println(name + ":\n" + log + "   but answered " + got);
            }
        }

        void command(int c, int w) {
            same("command(" + c + ", " + w + ")", answerOf(() -> real.command(c, w)), model.command(c, w));
        }

        void count(int c, int v) {
            same("count(" + c + ", " + v + ")", answerOf(() -> real.count(c, v)), model.count(c, v));
        }

        void words(int c, int v) {
            same("words(" + c + ", " + v + ")", answerOf(() -> real.words(c, v)), model.words(c, v));
        }

        void set(int c, int v) {
            same("set(" + c + ", " + v + ")", answerOf(() -> real.set(c, v)), model.set(c, v));
        }

        void feedText(byte[] text) {
            for (int from = 0; from < text.length; from += 20) {
                int[] n = new int[5];
                for (int i = 0; i < 20; i++) {
                    int b = from + i < text.length ? text[from + i] & 255 : 0;
                    n[i / 4] = n[i / 4] << 8 | b;
                }
                same("feed(" + Arrays.toString(n) + ")", real.feed(n[0], n[1], n[2], n[3], n[4]), model.feed(n));
            }
        }

        void tell(int n) {
            same("tell(" + n + ")", answerOf(() -> real.tell(n)), model.tell(n));
            same("fault()", real.fault(), model.faultPlace);
        }

        void tellText(String text) {
            byte[] bytes = text.getBytes(java.nio.charset.StandardCharsets.ISO_8859_1);
            int before = model.tape.size();
            log.append("# ").append(text).append('\n');
            feedText(bytes);
            tell(before > 0 ? before : Math.min(bytes.length, model.tape.size()));
        }

        void plan() {
            same("plan()", real.plan(), model.plan());
        }

        void free() {
            same("free()", real.free(), model.free());
        }

        void best(int k) {
            same("best(" + k + ")", answerOf(() -> real.best(k)), model.best(k));
        }

        void exchange(int k, int i, int which) {
            same("exchange(" + k + ", " + i + ", " + which + ")",
                    answerOf(() -> real.exchange(k, i, which)), model.exchange(k, i, which));
        }

        void swap(int a, int b) {
            same("swap(" + a + ", " + b + ")", answerOf(() -> real.swap(a, b)), model.swap(a, b));
        }

        void page() {
            same("print()", real.print(), model.print());
            for (int k = -1; k <= model.page.length(); k++) same("octet(" + k + ")", real.octet(k), model.octet(k));
        }

        void look() {
            same("cost()", real.cost(), model.cost());
            for (int what = -1; what <= 4; what++) same("told(" + what + ")", real.told(what), model.told(what));
            page();
            for (int c = -1; c <= model.counts.size(); c++) {
                int command = c;
                same("steps(" + c + ")", answerOf(() -> real.steps(command)), model.steps(c));
                same("misled(" + c + ")", answerOf(() -> real.misled(command)), model.misled(c));
                for (int k = -1; k < 5; k++) {
                    int list = k;
                    same("place(" + c + ", " + k + ")", answerOf(() -> real.place(command, list)), model.place(c, k));
                }
            }
        }
    }

    static Node drawnTree(Random draw, int commands, int breadth) {
        List<Node> items = new ArrayList<>();
        for (int c = 0; c < commands; c++) items.add(draw.nextInt(items.size() + 1), Node.of(c));
        while (items.size() > breadth || items.size() > 1 && draw.nextInt(3) > 0) {
            int size = 2 + draw.nextInt(Math.min(breadth, items.size()) - 1);
            int from = draw.nextInt(items.size() - size + 1);
            List<Node> inside = new ArrayList<>(items.subList(from, from + size));
            for (int i = 0; i < size; i++) items.remove(from);
            items.add(from, Node.of(inside));
        }
        return Node.of(items);
    }

    static String drawnText(Random draw, int commands, int breadth) {
        StringBuilder text = new StringBuilder();
        if (commands > 0) drawnTree(draw, commands, breadth).write(text);
        else text.append("()");
        String signs = "() 0123456789x(\u00a0";
        if (draw.nextInt(3) == 0) {
            for (int i = text.length(); i >= 0; i--) if (draw.nextInt(6) == 0) text.insert(i, ' ');
        }
        int spoils = draw.nextInt(4) - 1;
        for (int i = 0; i < spoils; i++) {
            int at = draw.nextInt(text.length() + 1);
            char sign = signs.charAt(draw.nextInt(signs.length()));
            int how = draw.nextInt(3);
            if (how == 0) text.insert(at, sign);
            else if (at < text.length() && how == 1) text.setCharAt(at, sign);
            else if (at < text.length()) text.deleteCharAt(at);
        }
        return text.toString();
    }

    static int drawnCount(Random draw, int style) {
        switch (style) {
            case 0: return 0;
            case 1: return draw.nextInt(3);
            case 2: return draw.nextInt(30);
            case 3: return 1;
            default: return draw.nextInt(10001);
        }
    }

    static int drawnSetting(Random draw, int what) {
        switch (what) {
            case 0: return draw.nextInt(3) == 0 ? 1 + draw.nextInt(100) : 1 + draw.nextInt(3);
            case 1: return draw.nextInt(3) == 0 ? draw.nextInt(101) : draw.nextInt(4);
            case 2: return 2 + draw.nextInt(draw.nextBoolean() ? 3 : 8);
            default: return draw.nextInt(3) == 0 ? draw.nextInt(101) : draw.nextInt(3);
        }
    }

    static void drawnRun(int seed) {
        Random draw = new Random(seed);
        Pair pair = new Pair("seed " + seed);
        int style = draw.nextInt(5);
        int most = 1 + draw.nextInt(6);
        int wordMask = (1 << 1 + draw.nextInt(5)) - 1;
        for (int turn = 0; turn < 60; turn++) {
            int n = pair.model.counts.size();
            int any = draw.nextInt(n + 2) - 1;
            int other = draw.nextInt(n + 2) - 1;
            switch (draw.nextInt(12)) {
                case 0:
                    if (n < most) pair.command(drawnCount(draw, style), draw.nextInt() & wordMask);
                    break;
                case 1:
                    pair.count(any, drawnCount(draw, style));
                    break;
                case 2:
                    pair.words(any, draw.nextInt() & wordMask);
                    break;
                case 3:
                    int what = draw.nextInt(4);
                    pair.set(what, drawnSetting(draw, what));
                    break;
                case 4:
                    pair.tellText(drawnText(draw, n, draw.nextInt(4) == 0 ? 9 : pair.model.settings[2]));
                    break;
                case 5:
                    pair.plan();
                    break;
                case 6:
                    pair.free();
                    break;
                case 7:
                    int k = draw.nextInt(4);
                    pair.best(k);
                    for (int i = -1; i <= k; i++) {
                        pair.exchange(k, i, 0);
                        pair.exchange(k, i, 1);
                    }
                    break;
                case 8:
                    pair.swap(any, other);
                    break;
                case 9:
                    pair.look();
                    break;
                case 10:
                    wrongCall(pair, draw);
                    break;
                default:
                    if (n < most) pair.command(drawnCount(draw, style), draw.nextInt() & wordMask);
                    break;
            }
        }
        pair.look();
    }

    static void wrongCall(Pair pair, Random draw) {
        int[] edges = {-1, 0, 3, 4, 10000, 10001, 16777215, 16777216, Integer.MIN_VALUE, Integer.MAX_VALUE, 101, 100, 1, 2, 9, 10};
        int a = edges[draw.nextInt(edges.length)];
        int b = edges[draw.nextInt(edges.length)];
        switch (draw.nextInt(7)) {
            case 0: if (a < 0 || a > 10000 || b < 0 || b > 16777215) pair.command(a, b); break;
            case 1: pair.count(a, b); break;
            case 2: pair.words(a, b); break;
            case 3: pair.set(a, b); break;
            case 4: pair.tell(a); break;
            case 5: pair.best(a); break;
            default: pair.exchange(a, b, draw.nextInt(4) - 1); break;
        }
    }

    /** Texts over the whole of 40 COMMANDS, whose PLAN the model could not list. */
    static void drawnLongTexts(int seed) {
        Random draw = new Random(seed);
        Pair pair = new Pair("long texts " + seed);
        for (int c = 0; c < 40; c++) pair.command(draw.nextInt(100), draw.nextInt(64));
        for (int turn = 0; turn < 12; turn++) {
            pair.set(2, 2 + draw.nextInt(8));
            pair.tellText(drawnText(draw, 40, pair.model.settings[2]));
            if (turn % 4 == 3) pair.look();
            pair.swap(draw.nextInt(40), draw.nextInt(40));
        }
        StringBuilder deep = new StringBuilder();
        for (int i = 0; i < 30 + draw.nextInt(15); i++) deep.append(draw.nextInt(4) == 0 ? " (" : "(");
        deep.append(drawnText(draw, 40, 9));
        pair.tellText(deep.toString());
    }

    static void largerCases() {
        Random draw = new Random(99);
        for (int n = 7; n <= 10; n++) {
            Pair pair = new Pair("larger " + n);
            for (int c = 0; c < n; c++) pair.command(draw.nextInt(40), draw.nextInt(64));
            for (int breadth = 2; breadth <= (n < 9 ? 9 : 4); breadth++) {
                pair.set(2, breadth);
                pair.set(0, drawnSetting(draw, 0));
                pair.set(1, drawnSetting(draw, 1));
                if (n < 9) pair.plan();
                pair.free();
            }
        }
        for (int turn = 0; turn < 6; turn++) {
            int n = 10 + turn % 3;
            Pair pair = new Pair("best of " + n);
            for (int c = 0; c < n; c++) pair.command(draw.nextInt(turn < 3 ? 5 : 100), draw.nextInt(64));
            pair.set(3, turn % 3);
            pair.tellText(drawnText(new Random(turn * 7 + 1), n, 4));
            StringBuilder text = new StringBuilder();
            drawnTree(draw, n, 4).write(text);
            pair.tellText(text.toString());
            pair.best(3);
            pair.exchange(3, 0, 0);
            pair.exchange(3, 0, 1);
            pair.exchange(3, 1, 0);
            pair.exchange(3, 1, 1);
            pair.exchange(3, 2, 0);
            pair.exchange(3, 2, 1);
        }
    }

    /** The model's FREE leans on sorting; here every order stands in every shape. */
    static void freeByAllOrders() {
        Random draw = new Random(5);
        for (int turn = 0; turn < 40; turn++) {
            int n = 1 + draw.nextInt(5);
            Pair pair = new Pair("all orders " + turn);
            for (int c = 0; c < n; c++) pair.command(draw.nextInt(20), 0);
            pair.set(0, drawnSetting(draw, 0));
            pair.set(1, drawnSetting(draw, 1));
            pair.set(2, drawnSetting(draw, 2));
            List<Integer> counts = new ArrayList<>(pair.model.counts);
            long least = leastOfOrders(pair.model, counts, 0);
            pair.same("free() by all orders", pair.real.free(), least);
        }
    }

    static long leastOfOrders(Model model, List<Integer> counts, int fixed) {
        if (fixed == counts.size()) {
            Model ordered = new Model();
            System.arraycopy(model.settings, 0, ordered.settings, 0, 4);
            ordered.counts.addAll(counts);
            return ordered.plan();
        }
        long least = Long.MAX_VALUE;
        for (int i = fixed; i < counts.size(); i++) {
            java.util.Collections.swap(counts, fixed, i);
            least = Math.min(least, leastOfOrders(model, counts, fixed + 1));
            java.util.Collections.swap(counts, fixed, i);
        }
        return least;
    }

    public static void main(String[] args) {
        int runs = args.length > 0 ? Integer.parseInt(args[0]) : 1500;
        for (int seed = 1; seed <= runs; seed++) drawnRun(seed);
        for (int seed = 1; seed <= runs / 5; seed++) drawnLongTexts(seed);
        largerCases();
        freeByAllOrders();
        System.out.println(wrong == 0 ? "OracleTest: all answers are as due" : "OracleTest: " + wrong + " answers are not as due");
        if (wrong != 0) System.exit(1);
    }
}
