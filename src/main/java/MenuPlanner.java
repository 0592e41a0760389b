import java.util.Arrays;

/**
 * A planner of menus: commands in menus within menus. The numbered promises of the document say
 * what each call answers; the comments here say only why it is done so.
 */
public final class MenuPlanner {
    public static final int NONE = -1;

    private static final int MOST_COMMANDS = 40;
    private static final int MOST_COUNT = 10000;
    private static final int MOST_WORDS = 16777215;
    private static final int WORD_BITS = 24;
    private static final int MOST_BREADTH = 9;
    private static final int MOST_OPEN = 40;
    private static final int MOST_TAPE = 400;
    private static final int FEED_BYTES = 20;
    private static final int FAULT_BASE = 10;
    private static final int MOST_FREE = 10;
    private static final int MOST_BEST = 12;
    private static final int MOST_EXCHANGES = 3;

    private static final int LOOK = 0;
    private static final int DOWN = 1;
    private static final int BREADTH = 2;
    private static final int UNLEARN = 3;
    private static final int[] LOWEST = {1, 0, 2, 0};
    private static final int[] HIGHEST = {100, 100, 9, 100};

    private final Use use = new Use();
    private final byte[] tape = new byte[MOST_TAPE];
    private int taped = 0;
    private final Reader reader = new Reader();
    private int faultPlace = NONE;
    private Tree tree = new Tree();
    /** What tell() reads into, so that a faulty text leaves the TREE alone. */
    private Tree draft = new Tree();
    private final Page page = new Page();
    private final Exchanges exchanges = new Exchanges();
    /** The two great tables are made when they are first asked for: many objects never need them. */
    private Spans spans = null;
    private boolean spansKnown = false;
    private Subsets subsets = null;
    private long freeCost = 0;
    private boolean freeKnown = false;

    public MenuPlanner() {
    }

    public int command(int count, int words) throws IllegalArgumentException, IllegalStateException {
        requireCount(count);
        requireWords(words);
        if (use.size >= MOST_COMMANDS) {
            throw new IllegalStateException("there are 40 commands");
        }
        int number = use.size;
        use.counts[number] = count;
        use.words[number] = words;
        use.size = number + 1;
        tree.clear();
        useChanged();
        return number;
    }

    public int count(int command, int count) throws IndexOutOfBoundsException, IllegalArgumentException {
        requireCommand(command);
        requireCount(count);
        int before = use.counts[command];
        use.counts[command] = count;
        useChanged();
        return before;
    }

    public int words(int command, int words) throws IndexOutOfBoundsException, IllegalArgumentException {
        requireCommand(command);
        requireWords(words);
        int before = use.words[command];
        use.words[command] = words;
        return before;
    }

    public int set(int what, int v) throws IllegalArgumentException {
        if (what < LOOK || what > UNLEARN) {
            throw new IllegalArgumentException("what is not 0 to 3");
        }
        if (v < LOWEST[what] || v > HIGHEST[what]) {
            throw new IllegalArgumentException("the value is out of its bounds");
        }
        int before = use.settings[what];
        use.settings[what] = v;
        useChanged();
        return before;
    }

    public int feed(int a, int b, int c, int d, int e) {
        if (taped > MOST_TAPE - FEED_BYTES) {
            return NONE;
        }
        putOnTape(a);
        putOnTape(b);
        putOnTape(c);
        putOnTape(d);
        putOnTape(e);
        return taped;
    }

    public int tell(int n) throws IllegalArgumentException {
        if (n < 0 || n > taped) {
            throw new IllegalArgumentException("the tape has not so many bytes");
        }
        reader.readTree(tape, n, use, draft);
        taped = 0;
        faultPlace = reader.faultPlace;
        if (reader.faultNumber != 0) {
            return reader.faultNumber - FAULT_BASE;
        }
        Tree old = tree;
        tree = draft;
        draft = old;
        exchanges.forget();
        return 0;
    }

    public int fault() {
        return faultPlace;
    }

    public long plan() {
        if (use.size == 0) {
            return NONE;
        }
        if (spans == null) {
            spans = new Spans();
        }
        if (!spansKnown) {
            spans.reckon(use);
            spansKnown = true;
        }
        spans.build(use, tree);
        exchanges.forget();
        return tree.totalCost(use);
    }

    public long cost() {
        return tree.exists() ? tree.totalCost(use) : NONE;
    }

    public int print() {
        if (!tree.exists()) {
            return NONE;
        }
        page.write(tree);
        return page.length;
    }

    public int octet(int k) {
        return k >= 0 && k < page.length ? page.bytes[k] : NONE;
    }

    public int steps(int command) throws IndexOutOfBoundsException {
        requireCommand(command);
        return tree.exists() ? tree.stepsTo(command, use) : NONE;
    }

    public int place(int command, int k) throws IndexOutOfBoundsException {
        requireCommand(command);
        if (!tree.exists() || k < 0 || k >= tree.wayLength(command)) {
            return 0;
        }
        return tree.placeOnWay(command, k);
    }

    public int misled(int command) throws IndexOutOfBoundsException {
        requireCommand(command);
        if (!tree.exists()) {
            return NONE;
        }
        int way = tree.wayLength(command);
        for (int k = 0; k < way; k++) {
            if (tree.misleadsAt(command, k, use)) {
                return k;
            }
        }
        return NONE;
    }

    public long free() {
        if (use.size == 0 || use.size > MOST_FREE) {
            return NONE;
        }
        if (!freeKnown) {
            if (subsets == null) {
                subsets = new Subsets();
            }
            freeCost = subsets.leastCost(use);
            freeKnown = true;
        }
        return freeCost;
    }

    public long best(int k) throws IllegalArgumentException {
        requireExchanges(k);
        if (!tellsBest()) {
            return NONE;
        }
        exchanges.reckon(k, use, tree);
        return exchanges.sums[k];
    }

    public int exchange(int k, int i, int which) throws IllegalArgumentException {
        requireExchanges(k);
        if (which != 0 && which != 1) {
            throw new IllegalArgumentException("which is not 0 or 1");
        }
        if (!tellsBest()) {
            return NONE;
        }
        exchanges.reckon(k, use, tree);
        if (i < 0 || i >= exchanges.lengths[k]) {
            return NONE;
        }
        return exchanges.partner(k, i, which);
    }

    public long swap(int one, int other) throws IndexOutOfBoundsException {
        requireCommand(one);
        requireCommand(other);
        if (!tree.exists()) {
            return NONE;
        }
        tree.trade(one, other);
        exchanges.forget();
        return tree.totalCost(use);
    }

    public int told(int what) {
        switch (what) {
            case 0:
                return use.size;
            case 1:
                return tree.exists() ? tree.lists - 1 : 0;
            case 2:
                return taped;
            case 3:
                return page.length;
            default:
                return NONE;
        }
    }

    private void requireCommand(int command) {
        if (command < 0 || command >= use.size) {
            throw new IndexOutOfBoundsException("no such command");
        }
    }

    private void requireCount(int count) {
        if (count < 0 || count > MOST_COUNT) {
            throw new IllegalArgumentException("the count is not 0 to 10,000");
        }
    }

    private void requireWords(int words) {
        if (words < 0 || words > MOST_WORDS) {
            throw new IllegalArgumentException("the words are not 0 to 16,777,215");
        }
    }

    private void requireExchanges(int k) {
        if (k < 0 || k > MOST_EXCHANGES) {
            throw new IllegalArgumentException("the exchanges are not 0 to 3");
        }
    }

    private boolean tellsBest() {
        return tree.exists() && use.size <= MOST_BEST;
    }

    private void putOnTape(int number) {
        for (int shift = 24; shift >= 0 && taped < MOST_TAPE; shift -= 8) {
            tape[taped] = (byte) (number >>> shift);
            taped++;
        }
    }

    /** PLAN, FREE and BEST are dear and BEST is asked for piece by piece: they are kept while they hold. */
    private void useChanged() {
        spansKnown = false;
        freeKnown = false;
        exchanges.forget();
    }

    /** The COMMANDS and the settings: what every reckoning looks at. */
    private static final class Use {
        int size = 0;
        final int[] counts = new int[MOST_COMMANDS];
        final int[] words = new int[MOST_COMMANDS];
        final int[] settings = {1, 1, 4, 1};
    }

    /** LISTS by number, 0 the TREE's own; an item is a command's number, or ~list for a MENU. */
    private static final class Tree {
        /**
         * A faulty text may hold 40 open LISTS and 39 closed MENUS (each of two ITEMS at least, so
         * fewer than the COMMANDS) before its fault is seen.
         */
        private static final int MOST_LISTS = 80;

        int lists = 0;
        final int[] sizes = new int[MOST_LISTS];
        final int[] above = new int[MOST_LISTS];
        final int[] placeAbove = new int[MOST_LISTS];
        private final int[] items = new int[MOST_LISTS * MOST_BREADTH];
        private final int[] home = new int[MOST_COMMANDS];
        private final int[] placeHome = new int[MOST_COMMANDS];
        private final int[] tally = new int[WORD_BITS];

        boolean exists() {
            return lists > 0;
        }

        void clear() {
            lists = 0;
        }

        void begin() {
            lists = 1;
            sizes[0] = 0;
            above[0] = NONE;
            placeAbove[0] = 0;
        }

        boolean addCommand(int list, int command) {
            if (!addItem(list, command)) {
                return false;
            }
            home[command] = list;
            placeHome[command] = sizes[list];
            return true;
        }

        /** The new MENU's list, or NONE where there is no room for it. */
        int addMenu(int list) {
            int menu = lists;
            if (menu >= MOST_LISTS || !addItem(list, ~menu)) {
                return NONE;
            }
            lists = menu + 1;
            sizes[menu] = 0;
            above[menu] = list;
            placeAbove[menu] = sizes[list];
            return menu;
        }

        private boolean addItem(int list, int item) {
            if (sizes[list] >= MOST_BREADTH) {
                return false;
            }
            items[list * MOST_BREADTH + sizes[list]] = item;
            sizes[list]++;
            return true;
        }

        int itemAt(int list, int place) {
            return items[list * MOST_BREADTH + place - 1];
        }

        void trade(int one, int other) {
            int oneHome = home[one];
            int onePlace = placeHome[one];
            seat(one, home[other], placeHome[other]);
            seat(other, oneHome, onePlace);
        }

        private void seat(int command, int list, int place) {
            home[command] = list;
            placeHome[command] = place;
            items[list * MOST_BREADTH + place - 1] = command;
        }

        int stepsTo(int command, Use use) {
            int look = use.settings[LOOK];
            int down = use.settings[DOWN];
            int sum = look * placeHome[command];
            int list = home[command];
            for (int up = 0; up < MOST_LISTS && list > 0; up++) {
                sum += look * placeAbove[list] + down;
                list = above[list];
            }
            return sum;
        }

        long totalCost(Use use) {
            long sum = 0;
            for (int c = 0; c < use.size; c++) {
                sum += (long) use.counts[c] * stepsTo(c, use);
            }
            return sum;
        }

        /** How many LISTS are on the way to a COMMAND. */
        int wayLength(int command) {
            int length = 1;
            int list = home[command];
            for (int up = 0; up < MOST_LISTS && list > 0; up++) {
                length++;
                list = above[list];
            }
            return length;
        }

        int placeOnWay(int command, int k) {
            int place = placeHome[command];
            int list = home[command];
            for (int at = wayLength(command) - 1; at > k && list > 0; at--) {
                place = placeAbove[list];
                list = above[list];
            }
            return place;
        }

        private int listOnWay(int command, int k) {
            int list = home[command];
            for (int at = wayLength(command) - 1; at > k && list > 0; at--) {
                list = above[list];
            }
            return list;
        }

        boolean misleadsAt(int command, int k, Use use) {
            int list = listOnWay(command, k);
            int right = placeOnWay(command, k);
            int shared = sharedWords(command, itemAt(list, right), use);
            for (int place = 1; place <= sizes[list]; place++) {
                if (place != right && sharedWords(command, itemAt(list, place), use) >= shared) {
                    return true;
                }
            }
            return false;
        }

        private int sharedWords(int command, int item, Use use) {
            int heading = item >= 0 ? use.words[item] : menuHeading(~item, use);
            return Integer.bitCount(use.words[command] & heading);
        }

        private int menuHeading(int menu, Use use) {
            Arrays.fill(tally, 0);
            int members = 0;
            for (int c = 0; c < use.size; c++) {
                if (isUnder(c, menu)) {
                    members++;
                    tallyWords(use.words[c]);
                }
            }
            int heading = 0;
            for (int bit = 0; bit < WORD_BITS; bit++) {
                if (2 * tally[bit] >= members) {
                    heading |= 1 << bit;
                }
            }
            return heading;
        }

        private void tallyWords(int words) {
            for (int bit = 0; bit < WORD_BITS; bit++) {
                tally[bit] += (words >>> bit) & 1;
            }
        }

        private boolean isUnder(int command, int menu) {
            int list = home[command];
            for (int up = 0; up < MOST_LISTS && list > 0 && list != menu; up++) {
                list = above[list];
            }
            return list == menu;
        }
    }

    /** Reads a text as a TREE, up to its first FAULT. */
    private static final class Reader {
        private static final int MISPLACED = 1;
        private static final int UNKNOWN = 2;
        private static final int TWICE = 3;
        private static final int TOO_MANY = 4;
        private static final int SINGLE = 5;
        private static final int LACKING = 6;

        int faultNumber = 0;
        int faultPlace = NONE;
        private final int[] open = new int[MOST_OPEN];
        private int depth = 0;
        private final boolean[] seen = new boolean[MOST_COMMANDS];
        private int seenCount = 0;

        void readTree(byte[] text, int length, Use use, Tree draft) {
            faultNumber = 0;
            faultPlace = NONE;
            depth = 0;
            seenCount = 0;
            for (int c = 0; c < MOST_COMMANDS; c++) {
                seen[c] = false;
            }
            draft.clear();
            for (int k = 0; k < length && faultNumber == 0; k++) {
                readByte(text, k, length, use, draft);
            }
            if (faultNumber == 0) {
                readEnd(length, use, draft);
            }
        }

        private void readByte(byte[] text, int k, int length, Use use, Tree draft) {
            int sign = text[k];
            if (isDigit(sign)) {
                // the digits behind the first one have been read with it
                if (k == 0 || !isDigit(text[k - 1])) {
                    readNumber(numberAt(text, k, length), k, use, draft);
                }
            } else if (sign == '(') {
                openList(k, use, draft);
            } else if (sign == ')') {
                closeList(k, draft);
            } else if (sign != ' ') {
                refuse(MISPLACED, k);
            }
        }

        private static boolean isDigit(int sign) {
            return sign >= '0' && sign <= '9';
        }

        private static int numberAt(byte[] text, int from, int length) {
            int number = 0;
            for (int k = from; k < length && isDigit(text[k]); k++) {
                // no COMMAND from 40 on: what is too great need not grow on, and so never wraps
                if (number < MOST_COMMANDS) {
                    number = number * 10 + (text[k] - '0');
                }
            }
            return number;
        }

        private void readNumber(int number, int k, Use use, Tree draft) {
            if (depth == 0) {
                refuse(MISPLACED, k);
            } else if (number >= use.size) {
                refuse(UNKNOWN, k);
            } else if (seen[number]) {
                refuse(TWICE, k);
            } else if (isFull(use, draft) || !draft.addCommand(open[depth - 1], number)) {
                refuse(TOO_MANY, k);
            } else {
                seen[number] = true;
                seenCount++;
            }
        }

        private void openList(int k, Use use, Tree draft) {
            if (depth > 0) {
                openMenu(k, use, draft);
            } else if (draft.exists()) {
                refuse(MISPLACED, k);
            } else {
                draft.begin();
                open[0] = 0;
                depth = 1;
            }
        }

        private void openMenu(int k, Use use, Tree draft) {
            if (depth >= MOST_OPEN || isFull(use, draft)) {
                refuse(TOO_MANY, k);
                return;
            }
            int menu = draft.addMenu(open[depth - 1]);
            if (menu == NONE) {
                refuse(TOO_MANY, k);
                return;
            }
            open[depth] = menu;
            depth++;
        }

        private boolean isFull(Use use, Tree draft) {
            return draft.sizes[open[depth - 1]] >= use.settings[BREADTH];
        }

        private void closeList(int k, Tree draft) {
            int size = depth == 0 ? 0 : draft.sizes[open[depth - 1]];
            if (size == 0) {
                refuse(MISPLACED, k);
            } else if (size == 1 && depth > 1) {
                refuse(SINGLE, k);
            } else {
                depth--;
            }
        }

        private void readEnd(int length, Use use, Tree draft) {
            if (depth > 0 || !draft.exists()) {
                refuse(MISPLACED, length);
            } else if (seenCount < use.size) {
                refuse(LACKING, length);
            }
        }

        private void refuse(int number, int k) {
            faultNumber = number;
            faultPlace = k;
        }
    }

    /** The PAGE: the text of the TREE that was printed last. */
    private static final class Page {
        /** 70 digits, 40 LISTS' brackets and 39 blanks are the most that a TREE can need. */
        private static final int MOST_BYTES = 189;
        /** A turn for each ITEM and for each LIST's end. */
        private static final int MOST_TURNS = 160;

        final byte[] bytes = new byte[MOST_BYTES];
        int length = 0;

        void write(Tree tree) {
            length = 0;
            put('(');
            int list = 0;
            int place = 1;
            for (int turn = 0; turn < MOST_TURNS && list != NONE; turn++) {
                if (place > tree.sizes[list]) {
                    put(')');
                    place = tree.placeAbove[list] + 1;
                    list = tree.above[list];
                    continue;
                }
                if (place > 1) {
                    put(' ');
                }
                int item = tree.itemAt(list, place);
                if (item >= 0) {
                    putNumber(item);
                    place++;
                } else {
                    put('(');
                    list = ~item;
                    place = 1;
                }
            }
        }

        private void putNumber(int number) {
            if (number >= 10) {
                put('0' + number / 10);
            }
            put('0' + number % 10);
        }

        private void put(int sign) {
            if (length < MOST_BYTES) {
                bytes[length] = (byte) sign;
                length++;
            }
        }
    }

    /**
     * PLAN by all spans of COMMANDS. The ITEM at PLACE p pays LOOK p times, so a LIST pays LOOK for
     * all that is left before each of its ITEMS: what is left of a LIST is a span with so many ITEMS
     * at most, whatever stands before it. COST and MENUS are held in one number, COST first.
     */
    private static final class Spans {
        private static final int SIDE = MOST_COMMANDS + 1;
        /** More than the MENUS of any TREE. */
        private static final int COST_UNIT = 64;

        private final long[] before = new long[SIDE];
        private final long[] asItem = new long[SIDE * SIDE];
        private final long[][] asRest = new long[MOST_BREADTH][SIDE * SIDE];
        private final int[] listFrom = new int[MOST_COMMANDS];
        private final int[] listTo = new int[MOST_COMMANDS];

        void reckon(Use use) {
            for (int c = 0; c < use.size; c++) {
                before[c + 1] = before[c] + use.counts[c];
            }
            for (int length = 1; length <= use.size; length++) {
                for (int from = 0; from + length <= use.size; from++) {
                    reckonSpan(from, from + length, use);
                }
            }
        }

        private void reckonSpan(int from, int to, Use use) {
            int breadth = use.settings[BREADTH];
            int span = from * SIDE + to;
            long look = lookPay(from, to, use);
            boolean single = to - from == 1;
            long item = 0;
            if (!single) {
                long down = (before[to] - before[from]) * use.settings[DOWN] * COST_UNIT;
                item = look + leastSplit(from, to, breadth) + down + 1;
            }
            asItem[span] = item;
            for (int most = 1; most < breadth; most++) {
                boolean whole = single || most == 1;
                asRest[most][span] = look + (whole ? item : Math.min(item, leastSplit(from, to, most)));
            }
        }

        private long lookPay(int from, int to, Use use) {
            return (before[to] - before[from]) * use.settings[LOOK] * COST_UNIT;
        }

        /** The least of a span of two COMMANDS or more in 2 to most ITEMS, but for its first LOOK. */
        private long leastSplit(int from, int to, int most) {
            long least = splitAt(from, from + 1, to, most);
            for (int cut = from + 2; cut < to; cut++) {
                least = Math.min(least, splitAt(from, cut, to, most));
            }
            return least;
        }

        private long splitAt(int from, int cut, int to, int most) {
            return asItem[from * SIDE + cut] + asRest[most - 1][cut * SIDE + to];
        }

        /** LISTS get their numbers as they are met, so each is split after the one that holds it. */
        void build(Use use, Tree tree) {
            tree.begin();
            listFrom[0] = 0;
            listTo[0] = use.size;
            for (int list = 0; list < tree.lists && list < MOST_COMMANDS; list++) {
                splitList(list, use, tree);
            }
        }

        private void splitList(int list, Use use, Tree tree) {
            int from = listFrom[list];
            int to = listTo[list];
            int breadth = use.settings[BREADTH];
            for (int most = breadth; most > 0 && from < to; most--) {
                int cut = to;
                if (most > 1 && to - from > 1) {
                    cut = firstCut(from, to, most, most == breadth, use);
                }
                addSpan(list, from, cut, tree);
                from = cut;
            }
        }

        /** Where the first ITEM of the PLAN of a span ends; a whole LIST has two ITEMS at least. */
        private int firstCut(int from, int to, int most, boolean wholeList, Use use) {
            long least = wholeList
                    ? leastSplit(from, to, most)
                    : asRest[most][from * SIDE + to] - lookPay(from, to, use);
            for (int cut = from + 1; cut < to; cut++) {
                if (splitAt(from, cut, to, most) == least) {
                    return cut;
                }
            }
            return to;
        }

        private void addSpan(int list, int from, int to, Tree tree) {
            if (to - from == 1) {
                tree.addCommand(list, from);
                return;
            }
            int menu = tree.addMenu(list);
            if (menu != NONE && menu < MOST_COMMANDS) {
                listFrom[menu] = from;
                listTo[menu] = to;
            }
        }
    }

    /** FREE by all subsets of the COMMANDS, told by bits; for the rest as Spans does it. */
    private static final class Subsets {
        private static final int GROUPS = 1 << MOST_FREE;
        /** Above every COST. */
        private static final long ENDLESS = 1L << 60;

        private final long[] weight = new long[GROUPS];
        private final long[] asItem = new long[GROUPS];
        private final long[][] asRest = new long[MOST_BREADTH][GROUPS];
        private final long[] least = new long[MOST_BREADTH + 1];

        long leastCost(Use use) {
            long list = 0;
            for (int group = 1; group < 1 << use.size && group < GROUPS; group++) {
                list = reckonGroup(group, use);
            }
            return list;
        }

        /** The least COST of the group as a LIST of its own. */
        private long reckonGroup(int group, Use use) {
            int breadth = use.settings[BREADTH];
            int size = Integer.bitCount(group);
            weight[group] = weight[group & (group - 1)] + use.counts[Integer.numberOfTrailingZeros(group)];
            long look = weight[group] * use.settings[LOOK];
            if (size == 1) {
                asItem[group] = 0;
                for (int most = 1; most < breadth; most++) {
                    asRest[most][group] = look;
                }
                return look;
            }
            int top = Math.min(breadth, size);
            splitGroup(group, top);
            long list = look + least[top];
            long item = list + weight[group] * use.settings[DOWN];
            asItem[group] = item;
            asRest[1][group] = look + item;
            for (int most = 2; most < breadth; most++) {
                asRest[most][group] = look + Math.min(item, least[Math.min(most, top)]);
            }
            return list;
        }

        /** For 2 to top the least of the group in so many ITEMS at most, two at least. */
        private void splitGroup(int group, int top) {
            Arrays.fill(least, ENDLESS);
            for (int first = (group - 1) & group; first > 0; first = (first - 1) & group) {
                int rest = group ^ first;
                for (int most = 2; most <= top; most++) {
                    least[most] = Math.min(least[most], asItem[first] + asRest[most - 1][rest]);
                }
            }
        }
    }

    /** BEST for 0 to 3 EXCHANGES at most, each reckoned from the one before it when it is asked for. */
    private static final class Exchanges {
        private static final int MOST_PAIRS = MOST_BEST * (MOST_BEST - 1) / 2;

        final long[] sums = new long[MOST_EXCHANGES + 1];
        final int[] lengths = new int[MOST_EXCHANGES + 1];
        private final int[][] rows = new int[MOST_EXCHANGES + 1][MOST_EXCHANGES];
        private int reckoned = NONE;
        private final int[] lower = new int[MOST_PAIRS];
        private final int[] upper = new int[MOST_PAIRS];
        private int pairs = 0;
        private final long[] counts = new long[MOST_BEST];
        private final long[] steps = new long[MOST_BEST];
        private long unlearn = 0;
        private final int[] row = new int[MOST_EXCHANGES];

        void forget() {
            reckoned = NONE;
        }

        int partner(int k, int i, int which) {
            int pair = rows[k][i];
            return which == 0 ? lower[pair] : upper[pair];
        }

        void reckon(int k, Use use, Tree tree) {
            if (reckoned == NONE) {
                begin(use, tree);
            }
            for (int most = reckoned + 1; most <= k; most++) {
                sums[most] = sums[most - 1];
                lengths[most] = lengths[most - 1];
                System.arraycopy(rows[most - 1], 0, rows[most], 0, MOST_EXCHANGES);
                tryRows(0, most, sums[0]);
                reckoned = most;
            }
        }

        private void begin(Use use, Tree tree) {
            unlearn = use.settings[UNLEARN];
            int size = Math.min(use.size, MOST_BEST);
            for (int c = 0; c < size; c++) {
                counts[c] = use.counts[c];
                steps[c] = tree.stepsTo(c, use);
            }
            listPairs(size);
            sums[0] = tree.totalCost(use);
            lengths[0] = 0;
            reckoned = 0;
        }

        /** Two COMMANDS of one COUNT are never in BEST: without them the row is shorter and as good. */
        private void listPairs(int size) {
            pairs = 0;
            for (int a = 0; a < size; a++) {
                for (int b = a + 1; b < size; b++) {
                    if (counts[a] != counts[b] && pairs < MOST_PAIRS) {
                        lower[pairs] = a;
                        upper[pairs] = b;
                        pairs++;
                    }
                }
            }
        }

        /** All rows of just this length in their order: only what is less than all before is kept. */
        private void tryRows(int depth, int length, long sum) {
            if (depth >= length || depth >= MOST_EXCHANGES) {
                return;
            }
            boolean last = depth + 1 == length;
            for (int pair = 0; pair < pairs; pair++) {
                if (depth > 0 && isNeedless(row[depth - 1], pair)) {
                    continue;
                }
                row[depth] = pair;
                long then = sum + change(pair);
                if (!last) {
                    tradeSteps(pair);
                    tryRows(depth + 1, length, then);
                    tradeSteps(pair);
                } else if (then < sums[length]) {
                    keepRow(length, then);
                }
            }
        }

        /** The same pair again does nothing, and pairs apart from one another were tried in order. */
        private boolean isNeedless(int earlier, int pair) {
            if (pair >= earlier) {
                return pair == earlier;
            }
            return lower[pair] != lower[earlier] && lower[pair] != upper[earlier]
                    && upper[pair] != lower[earlier] && upper[pair] != upper[earlier];
        }

        private long change(int pair) {
            int a = lower[pair];
            int b = upper[pair];
            return (counts[a] - counts[b]) * (steps[b] - steps[a]) + unlearn * (counts[a] + counts[b]);
        }

        private void tradeSteps(int pair) {
            long held = steps[lower[pair]];
            steps[lower[pair]] = steps[upper[pair]];
            steps[upper[pair]] = held;
        }

        private void keepRow(int length, long sum) {
            sums[length] = sum;
            lengths[length] = length;
            System.arraycopy(row, 0, rows[length], 0, MOST_EXCHANGES);
        }
    }
}
