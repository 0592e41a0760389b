/** Each sentence of "Terms", parts 3 to 5, that names a boundary case: PLAN, FREE, MISLED and BEST. */
public final class ChoiceBoundsTest extends Calls {
    private static void planned(String want, long cost, MenuPlanner x) {
        due("COST of " + want, x.plan(), cost);
        due("PLAN", printed(x), want);
        due("COST of " + want + " as the TREE", x.cost(), cost);
    }

    static void planOfNoCommands() {
        MenuPlanner x = new MenuPlanner();
        idle("PLAN", -1, x, x::plan);
    }

    static void planOfOneCommand() {
        planned("(0)", 7, with(7));
        planned("(0)", 0, with(0));
    }

    static void planOfAsManyCommandsAsBreadth() {
        for (int breadth = 2; breadth <= 9; breadth++) {
            MenuPlanner x = equalOnes(breadth);
            x.set(1, 100);
            x.set(2, breadth);
            planned("(" + numbers(0, breadth) + ")", breadth * (breadth + 1) / 2, x);
        }
    }

    /** A MENU of two at PLACE p costs p + 2 * DOWN + 3 more than the LIST without it, so it stands first. */
    static void planOfOneCommandMoreThanBreadth() {
        for (int breadth = 2; breadth <= 9; breadth++) {
            MenuPlanner x = equalOnes(breadth + 1);
            x.set(1, 100);
            x.set(2, breadth);
            planned("((0 1) " + numbers(2, breadth + 1) + ")", breadth * (breadth + 1) / 2 + 204, x);
        }
    }

    static void planOf40Commands() {
        MenuPlanner x = with(new int[40]);
        x.set(2, 2);
        planned(chainOf40(), 0, x);
        due("MENUS", x.told(1), 38);
        MenuPlanner y = with(new int[40]);
        y.set(2, 9);
        planned("(" + numbers(0, 8) + " (" + numbers(8, 16) + " (" + numbers(16, 24) + " (" + numbers(24, 32)
                + " (" + numbers(32, 40) + ")))))", 0, y);
    }

    static void planHasTheCommandsInOrderOfTheirNumbers() {
        MenuPlanner x = with(1, 1, 100);
        x.set(1, 100);
        planned("(0 1 2)", 303, x);
    }

    static void planIsOfTheLeastCostFirst() {
        MenuPlanner x = with(1, 1, 3);
        x.set(1, 0);
        planned("((0 1) 2)", 11, x);
    }

    static void planHasTheFewestMenusOfTheLeastCost() {
        MenuPlanner x = with(1, 1, 2);
        x.set(1, 0);
        planned("(0 1 2)", 9, x);
        MenuPlanner zeros = with(0, 0, 0, 0, 0);
        zeros.set(2, 3);
        planned("(0 1 (2 3 4))", 0, zeros);
        zeros.set(2, 9);
        planned("(0 1 2 3 4)", 0, zeros);
    }

    /** ((0 1) (2 3) 4), whose first ITEM has fewer COMMANDS, costs 32 too. */
    static void theFewestMenusAreAskedBeforeTheFirstItem() {
        MenuPlanner x = with(2, 3, 2, 1, 3);
        x.set(1, 0);
        x.set(2, 3);
        planned("((0 1 2) 3 4)", 32, x);
    }

    /** (0 (1 2)) and ((0 1) 2) both cost 21. */
    static void planIsTheOneWhoseFirstItemHasTheFewestCommands() {
        MenuPlanner x = with(2, 5, 1);
        x.set(1, 0);
        x.set(2, 2);
        planned("(0 (1 2))", 21, x);
    }

    /** (0 1 (2 3)) and (0 (1 2) 3) both cost 113. */
    static void planIsThenTheOneWhoseSecondItemHasTheFewest() {
        MenuPlanner x = with(100, 2, 1, 1);
        x.set(1, 0);
        x.set(2, 3);
        planned("(0 1 (2 3))", 113, x);
    }

    static void planIsSoToItsLastItem() {
        MenuPlanner x = with(0, 0, 0, 0, 0);
        planned("(0 1 2 (3 4))", 0, x);
        MenuPlanner y = with(new int[10]);
        y.set(2, 9);
        planned("(0 1 2 3 4 5 6 7 (8 9))", 0, y);
    }

    /** (0 (1 (2 3))) and (0 ((1 2) 3)) both cost 137. */
    static void planIsThenSoInItsMenu() {
        MenuPlanner x = with(100, 2, 5, 1);
        x.set(1, 0);
        x.set(2, 2);
        planned("(0 (1 (2 3)))", 137, x);
    }

    /** Each of the MENUS could as well be ((0 1) 2), ((3 4) 5). */
    static void planIsThenSoInEachOfItsMenus() {
        MenuPlanner x = with(4, 1, 2, 2, 1, 1);
        x.set(1, 0);
        x.set(2, 2);
        planned("((0 (1 2)) (3 (4 5)))", 15 + 7 + 9 + 8, x);
    }

    static void freeIsToldFor1To10Commands() {
        for (int n = 1; n <= 10; n++) {
            int[] counts = new int[n];
            counts[n - 1] = 7;
            due("FREE of " + n + ", the last one used alone", with(counts).free(), 7);
        }
        MenuPlanner x = equalOnes(10);
        x.set(1, 100);
        x.set(2, 9);
        due("FREE of ten", x.free(), 45 + 204);
    }

    static void freeIsNotToldForMoreThan10() {
        MenuPlanner x = equalOnes(10);
        due("FREE of ten", x.free() > 0 ? 1 : 0, 1);
        for (int n = 11; n <= 40; n++) {
            x.command(1, 0);
            due("FREE of " + n, x.free(), -1);
        }
    }

    static void freeIsOfWhateverOrder() {
        MenuPlanner x = with(1, 2, 3);
        due("in their order", x.plan(), 1 + 4 + 9);
        due("in whatever order", x.free(), 3 + 4 + 3);
        MenuPlanner y = with(3, 2, 1);
        due("the same as told the other way", y.free(), 10);
    }

    static void freeMayNeedAMenuInTheMiddle() {
        MenuPlanner x = with(0, 10, 0, 9, 0);
        x.set(2, 3);
        due("FREE", x.free(), 10 + 18);
    }

    /** Of the MENU (0 1 ..) so many COMMANDS as have are the first; COMMAND n, behind it, has the WORD alone. */
    private static void headed(int have, int of, boolean misleads) {
        MenuPlanner x = new MenuPlanner();
        for (int c = 0; c < of; c++) x.command(1, c < have ? 1 << 23 : 0);
        x.command(1, 1 << 23);
        x.set(2, 9);
        told("((" + numbers(0, of) + ") " + of + ")", x);
        due("a WORD that " + have + " of " + of + " have", x.misled(of), misleads ? 0 : -1);
    }

    static void halfOfTheCommandsAreEnoughForTheHeading() {
        for (int of = 2; of <= 8; of += 2) headed(of / 2, of, true);
    }

    static void moreThanHalfAreInTheHeadingToo() {
        headed(2, 3, true);
        headed(3, 5, true);
        headed(5, 9, true);
        headed(9, 9, true);
        headed(3, 4, true);
    }

    static void lessThanHalfAreNot() {
        headed(0, 2, false);
        headed(1, 3, false);
        headed(1, 4, false);
        headed(2, 5, false);
        headed(4, 9, false);
    }

    static void theHeadingIsOfTheCommandsAtAnyDepth() {
        MenuPlanner x = new MenuPlanner();
        for (int words : new int[] {1, 0, 0, 1, 1}) x.command(1, words);
        told("((0 (1 2)) 3 4)", x);
        due("one of three", x.misled(3), 0);
        told("((0 (1 2)) 3)", equalOnes(4));
        MenuPlanner y = new MenuPlanner();
        for (int words : new int[] {1, 0, 0, 1}) y.command(1, words);
        told("((0 (1 2)) 3)", y);
        due("one of three, though it is half of the MENU's ITEMS", y.misled(3), -1);
        y.words(1, 1);
        due("two of three", y.misled(3), 0);
    }

    static void theHeadingIsOfItsOwnCommandsAlone() {
        MenuPlanner x = new MenuPlanner();
        for (int words : new int[] {1, 1, 2, 2, 4}) x.command(1, words);
        told("((0 1) (2 3) 4)", x);
        for (int turn = 0; turn < 3; turn++) {
            for (int c = 0; c < 4; c++) due("only in its own MENU", x.misled(c), 1);
            due("at none", x.misled(4), -1);
        }
    }

    static void theHeadingOfACommandIsItsWords() {
        MenuPlanner x = new MenuPlanner();
        x.command(1, 7);
        x.command(1, 3);
        told("(0 1)", x);
        due("three of its WORDS against two", x.misled(0), -1);
        due("two of its WORDS against two", x.misled(1), 0);
    }

    static void misledByAsMany() {
        MenuPlanner x = new MenuPlanner();
        x.command(1, 3);
        x.command(1, 3);
        told("(0 1)", x);
        due("the first by the second", x.misled(0), 0);
        due("the second by the first", x.misled(1), 0);
    }

    static void misledByMore() {
        MenuPlanner x = new MenuPlanner();
        for (int words : new int[] {3, 0, 0, 3}) x.command(1, words);
        told("((0 1 2) 3)", x);
        due("none of its WORDS against two", x.misled(0), 0);
    }

    static void notMisledByFewer() {
        MenuPlanner x = new MenuPlanner();
        x.command(1, 7);
        x.command(1, 6 | 16 | 32 | 64);
        told("(0 1)", x);
        due("only its own WORDS are asked", x.misled(0), -1);
    }

    static void withoutWordsMisledByAnyOtherItem() {
        MenuPlanner x = equalOnes(2);
        told("(0 1)", x);
        due("none against none", x.misled(0), 0);
        x.words(1, 16777215);
        due("none against none", x.misled(0), 0);
    }

    static void notMisledWhereThereIsNoOtherItem() {
        MenuPlanner one = with(1);
        told("(0)", one);
        due("the only COMMAND", one.misled(0), -1);
        MenuPlanner x = equalOnes(2);
        told("((0 1))", x);
        due("the only MENU, so in the LIST below it", x.misled(0), 1);
    }

    static void misledByTheFirstAndByTheLastItem() {
        MenuPlanner x = new MenuPlanner();
        for (int c = 0; c < 9; c++) x.command(1, 1 << c);
        x.set(2, 9);
        told("(0 1 2 3 4 5 6 7 8)", x);
        for (int c = 0; c < 9; c++) due("each has its WORD alone", x.misled(c), -1);
        x.words(0, 1 | 1 << 4);
        due("by the first", x.misled(4), 0);
        x.words(0, 1);
        x.words(8, 1 << 8 | 1 << 4);
        due("by the last", x.misled(4), 0);
    }

    /** COMMAND 39 has all WORDS, the others half of them by turns: so every MENU's HEADING has them all. */
    static void theFirstListAtWhichOneIsMisled() {
        MenuPlanner x = new MenuPlanner();
        for (int c = 0; c < 39; c++) x.command(1, c % 2 == 0 ? 0xfff : 0xfff000);
        x.command(1, 0xffffff);
        told("(" + chainOf40() + ")", x);
        due("at none of 40 LISTS", x.misled(39), -1);
        for (int c = 38; c >= 0; c--) {
            x.words(c, 0xffffff);
            due("at the LIST of COMMAND " + c, x.misled(39), c + 1);
        }
    }

    private static void row(String what, MenuPlanner x, int k, long sum, int... commands) {
        due(what + ": best(" + k + ")", x.best(k), sum);
        for (int i = 0; i < 4; i++) {
            for (int which = 0; which < 2; which++) {
                int want = 2 * i + which < commands.length ? commands[2 * i + which] : -1;
                due(what + ": exchange(" + k + ", " + i + ", " + which + ")", x.exchange(k, i, which), want);
            }
        }
    }

    private static MenuPlanner flat(int unlearn, int... counts) {
        MenuPlanner x = with(counts);
        x.set(2, 9);
        x.set(3, unlearn);
        told("(" + numbers(0, counts.length) + ")", x);
        return x;
    }

    static void aRowOf0To3Exchanges() {
        MenuPlanner x = flat(0, 1, 2, 3, 4, 5, 6);
        row("none", x, 0, 91);
        row("one", x, 1, 66, 0, 5);
        row("two", x, 2, 57, 0, 5, 1, 4);
        row("three", x, 3, 56, 0, 5, 1, 4, 2, 3);
        refused("four", ARGUMENT, () -> x.best(4));
    }

    static void aRowMayBeShorterThanK() {
        MenuPlanner x = flat(0, 1, 2);
        for (int k = 1; k <= 3; k++) row("two COMMANDS", x, k, 4, 0, 1);
        MenuPlanner last = flat(0, 9, 5, 7);
        for (int k = 1; k <= 3; k++) row("the last two", last, k, 38, 1, 2);
        MenuPlanner two = flat(0, 9, 3, 5, 4);
        for (int k = 2; k <= 3; k++) row("two", two, k, 43, 1, 2, 1, 3);
        MenuPlanner sorted = flat(0, 9, 8, 7);
        for (int k = 0; k <= 3; k++) row("nothing to gain", sorted, k, 46);
        MenuPlanner one = flat(0, 5);
        for (int k = 0; k <= 3; k++) row("one COMMAND", one, k, 5);
    }

    static void unlearnIsPaidForBothCountsTogether() {
        MenuPlanner x = flat(1, 2, 9);
        x.set(0, 10);
        row("UNLEARN 1", x, 1, 90 + 40 + 11, 0, 1);
        x.set(3, 6);
        row("UNLEARN 6", x, 1, 90 + 40 + 66, 0, 1);
        x.set(3, 7);
        row("UNLEARN 7", x, 1, 20 + 180);
    }

    /** Both rows come to this order; the EXCHANGES that pay less are not the first ones. */
    static void unlearnIsPaidForEachExchange() {
        MenuPlanner x = with(3, 2, 1);
        x.set(0, 100);
        told("(2 0 1)", x);
        row("UNLEARN 1", x, 2, 100 * (3 + 4 + 3) + 4 + 3, 0, 2, 1, 2);
        x.set(3, 0);
        row("UNLEARN 0", x, 2, 1000, 0, 1, 0, 2);
    }

    static void ofTheLeastSumTheFewestExchanges() {
        MenuPlanner x = flat(1, 0, 5);
        row("as much to unlearn as is gained", x, 3, 10);
        x.set(0, 2);
        row("less to unlearn", x, 3, 10 + 5, 0, 1);
        MenuPlanner zeros = flat(0, 0, 0, 0, 0);
        row("all COUNTS 0", zeros, 3, 0);
        MenuPlanner same = flat(0, 3, 7, 3);
        row("the same COUNTS are not exchanged", same, 3, 7 + 6 + 9, 0, 1);
    }

    /** 0-2, 1-2 and 1-3 gain 4 each. */
    static void ofTheseTheFirstByTheFirstExchangesLowerNumber() {
        row("one", flat(0, 2, 0, 4, 2), 1, 2 + 12 + 8 - 4, 0, 2);
    }

    /** 0-1, 0-2 and 0-3 gain 6 each. */
    static void ofTheseTheFirstByTheFirstExchangesOtherNumber() {
        row("one", flat(0, 0, 6, 3, 2), 1, 12 + 9 + 8 - 6, 0, 1);
    }

    static void ofTheseTheFirstByTheSecondExchangesLowerNumber() {
        long cost = 100 + 400 + 6 + 20 + 12;
        row("two", flat(0, 100, 200, 2, 0, 4, 2), 2, cost - 100 - 4, 0, 1, 2, 4);
    }

    static void ofTheseTheFirstByTheSecondExchangesOtherNumber() {
        long cost = 100 + 400 + 24 + 15 + 12;
        row("two", flat(0, 100, 200, 0, 6, 3, 2), 2, cost - 100 - 6, 0, 1, 2, 3);
    }

    static void ofTheseTheFirstByTheThirdExchangesLowerNumber() {
        long cost = 1000 + 4000 + 300 + 1200 + 10 + 28 + 16;
        row("three", flat(0, 1000, 2000, 100, 300, 2, 0, 4, 2), 3, cost - 1000 - 200 - 4, 0, 1, 2, 3, 4, 6);
    }

    static void ofTheseTheFirstByTheThirdExchangesOtherNumber() {
        long cost = 1000 + 4000 + 300 + 1200 + 36 + 21 + 16;
        row("three", flat(0, 1000, 2000, 100, 300, 0, 6, 3, 2), 3, cost - 1000 - 200 - 6, 0, 1, 2, 3, 4, 5);
    }

    /** Of 0, 1 and 2 the least used changes twice, so the second EXCHANGE has lower numbers than the first. */
    static void theSecondExchangeMayHaveLowerNumbers() {
        String[] texts = {"(2 0 1 3 4)", "(2 1 0 3 4)", "(1 2 0 3 4)"};
        int[][] counts = {{10, 30, 20, 2, 1}, {30, 10, 20, 2, 1}, {30, 20, 10, 2, 1}};
        int[][] rows = {{0, 2, 0, 1}, {1, 2, 0, 1}, {1, 2, 0, 2}};
        for (int i = 0; i < 3; i++) {
            MenuPlanner x = with(counts[i]);
            x.set(0, 100);
            x.set(2, 9);
            told(texts[i], x);
            for (int k = 2; k <= 3; k++) row(texts[i], x, k, 100 * (30 + 40 + 30 + 8 + 5) + 70, rows[i]);
        }
    }

    static void theFirstRowIsAskedAnewWhenCountsChange() {
        MenuPlanner x = flat(0, 0, 0, 3, 2);
        row("before", x, 1, 9 + 8 - 6, 0, 2);
        x.count(1, 6);
        row("then", x, 1, 12 + 9 + 8 - 6, 0, 1);
        x.count(1, 0);
        row("and as before", x, 1, 9 + 8 - 6, 0, 2);
    }

    static void theFirstRowIsNotTheOneThatGainsMostFirst() {
        MenuPlanner x = flat(0, 8, 9, 1, 7);
        row("one", x, 1, 8 + 18 + 3 + 28 - 6, 2, 3);
        row("two", x, 2, 8 + 18 + 3 + 28 - 7, 0, 1, 2, 3);
    }

    static void theLowerNumberStandsFirst() {
        MenuPlanner x = with(9, 1);
        x.set(3, 0);
        told("(1 0)", x);
        row("one", x, 1, 11, 0, 1);
    }

    static void bestIsToldFor12Commands() {
        int[] counts = new int[12];
        counts[11] = 100;
        MenuPlanner x = with(counts);
        x.set(3, 0);
        told("(0 1 2 (3 4 5 (6 7 8 (9 10 11))))", x);
        row("12 COMMANDS", x, 1, 100, 0, 11);
        row("12 COMMANDS", x, 3, 100, 0, 11);
        for (int c = 0; c < 12; c++) x.count(c, 100 * c);
        due("12 COMMANDS, each with a COUNT of its own", x.best(0), x.cost());
        due("three EXCHANGES", x.exchange(3, 2, 1), 9);
    }

    /** The STEPS grow and the COUNTS fall from one COMMAND to the next, but for one pair. */
    static void bestFindsEachOfTheExchangesOf12Commands() {
        for (int a = 0; a < 12; a++) {
            for (int b = a + 1; b < 12; b++) {
                MenuPlanner x = new MenuPlanner();
                for (int c = 0; c < 12; c++) x.command(1200 - 100 * c, 0);
                x.set(3, 0);
                told("(0 1 2 (3 4 5 (6 7 8 (9 10 11))))", x);
                long least = x.cost();
                x.swap(a, b);
                row("one", x, 1, least, a, b);
            }
        }
    }

    static void bestIsNotToldForMoreThan12() {
        MenuPlanner x = equalOnes(12);
        for (int n = 13; n <= 40; n++) {
            x.command(1, 0);
            x.plan();
            for (int k = 0; k <= 3; k++) due("best of " + n, x.best(k), -1);
            due("exchange of " + n, x.exchange(3, 0, 0), -1);
        }
    }

    public static void main(String[] args) throws ReflectiveOperationException {
        runAll(ChoiceBoundsTest.class);
    }
}
