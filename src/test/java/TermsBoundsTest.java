/** Each sentence of "Terms", part 1, that names a boundary case. */
public final class TermsBoundsTest extends Calls {
    private static final int[] FIRST = {1, 1, 4, 1};

    static void commandsAreNumberedFrom0On() {
        MenuPlanner x = new MenuPlanner();
        due("the first COMMAND", x.command(3, 0), 0);
        due("its COUNT is that of 0", x.count(0, 3), 3);
        due("the second COMMAND", x.command(5, 0), 1);
        due("its COUNT is that of 1", x.count(1, 5), 5);
        refused("no COMMAND 2", BOUNDS, () -> x.count(2, 5));
    }

    static void commandsAre40AtMost() {
        MenuPlanner x = equalOnes(39);
        due("the 40th", x.command(7, 5), 39);
        due("there are 40", x.told(0), 40);
        refused("a 41st", STATE, () -> x.command(1, 1));
        due("there are 40 still", x.told(0), 40);
        due("the 40th stays", x.count(39, 0), 7);
        due("the 40th stays", x.words(39, 0), 5);
        refused("COMMAND 40", BOUNDS, () -> x.count(40, 0));
    }

    static void aCountIs0() {
        MenuPlanner x = new MenuPlanner();
        due("a COMMAND of COUNT 0", x.command(0, 0), 0);
        due("it is so", x.count(0, 4), 0);
        due("put back to 0", x.count(0, 0), 4);
        due("it is so", x.count(0, 0), 0);
        due("it costs nothing", x.plan(), 0);
    }

    static void aCountIsNotBelow0() {
        MenuPlanner x = with(4);
        x.plan();
        int[] wrong = {-1, -10000, LEAST};
        refusedWhole("command of COUNT", ARGUMENT, x, wrong, count -> x.command(count, 0));
        refusedWhole("COUNT", ARGUMENT, x, wrong, count -> x.count(0, count));
    }

    static void aCountIs10000() {
        MenuPlanner x = new MenuPlanner();
        due("a COMMAND of COUNT 10,000", x.command(10000, 0), 0);
        due("it is so", x.count(0, 4), 10000);
        due("put to 10,000 again", x.count(0, 10000), 4);
        due("it is so", x.plan(), 10000);
    }

    static void aCountIsNotAbove10000() {
        MenuPlanner x = with(4);
        x.plan();
        int[] wrong = {10001, 65536, GREATEST};
        refusedWhole("command of COUNT", ARGUMENT, x, wrong, count -> x.command(count, 0));
        refusedWhole("COUNT", ARGUMENT, x, wrong, count -> x.count(0, count));
    }

    /** Two COMMANDS in one LIST: only if a WORD counts is the one that has it not misled. */
    static void eachOfTheWords0To23Counts() {
        for (int word = 0; word <= 23; word++) {
            MenuPlanner x = new MenuPlanner();
            x.command(1, 1 << word);
            x.command(1, 0);
            x.plan();
            due("WORD " + word, x.misled(0), -1);
            due("WORD " + word + " is so", x.words(0, 0), 1 << word);
            due("without WORD " + word, x.misled(0), 0);
        }
    }

    static void allWordsAndNone() {
        MenuPlanner x = new MenuPlanner();
        due("all WORDS", x.command(1, 16777215), 0);
        due("no WORDS", x.command(1, 0), 1);
        due("all were there", x.words(0, 0), 16777215);
        due("none were there", x.words(1, 16777215), 0);
        due("none is there", x.words(0, 0), 0);
        due("all are there", x.words(1, 16777215), 16777215);
    }

    static void wordsAreNotBelow0() {
        MenuPlanner x = with(4, 5);
        x.plan();
        int[] wrong = {-1, -16777215, LEAST};
        refusedWhole("command of WORDS", ARGUMENT, x, wrong, words -> x.command(1, words));
        refusedWhole("WORDS", ARGUMENT, x, wrong, words -> x.words(0, words));
    }

    static void thereIsNoWord24() {
        MenuPlanner x = with(4, 5);
        x.plan();
        int[] wrong = {16777216, 16777217, 1 << 30, GREATEST};
        refusedWhole("command of WORDS", ARGUMENT, x, wrong, words -> x.command(1, words));
        refusedWhole("WORDS", ARGUMENT, x, wrong, words -> x.words(0, words));
    }

    private static void bounds(int what, int least, int greatest) {
        MenuPlanner x = with(3, 4);
        x.plan();
        due("setting " + what + " at first", x.set(what, least), FIRST[what]);
        due("setting " + what + " is its least", x.set(what, least), least);
        refusedWhole("setting " + what + " to", ARGUMENT, x, these(least - 1, greatest + 1, LEAST, GREATEST), v -> x.set(what, v));
        due("setting " + what + " is its least still", x.set(what, greatest), least);
        due("setting " + what + " is its greatest", x.set(what, FIRST[what]), greatest);
        for (int other = 0; other < 4; other++) due("setting " + other + " stays", x.set(other, FIRST[other]), FIRST[other]);
    }

    static void lookIs1To100And1AtFirst() {
        bounds(0, 1, 100);
        MenuPlanner x = with(1, 1);
        told("(0 1)", x);
        due("LOOK at first", x.steps(1), 2);
        x.set(0, 100);
        due("LOOK 100", x.steps(1), 200);
        x.set(0, 1);
        due("LOOK 1", x.steps(1), 2);
    }

    static void downIs0To100And1AtFirst() {
        bounds(1, 0, 100);
        MenuPlanner x = with(1, 1);
        told("((0 1))", x);
        due("DOWN at first", x.steps(0), 3);
        x.set(1, 100);
        due("DOWN 100", x.steps(0), 102);
        x.set(1, 0);
        due("DOWN 0", x.steps(0), 2);
    }

    static void breadthIs2To9And4AtFirst() {
        bounds(2, 2, 9);
        MenuPlanner x = equalOnes(10);
        faulty(x, "(0 1 2 3 4)", 4, 9);
        faulty(x, "(0 1 2 3)", 6, 9);
        x.set(2, 9);
        faulty(x, "(0 1 2 3 4 5 6 7 8 9)", 4, 19);
        faulty(x, "(0 1 2 3 4 5 6 7 8)", 6, 19);
        x.set(2, 2);
        faulty(x, "(0 1 2)", 4, 5);
        faulty(x, "(0 1)", 6, 5);
    }

    static void unlearnIs0To100And1AtFirst() {
        bounds(3, 0, 100);
        MenuPlanner x = with(0, 6);
        x.set(0, 100);
        told("(0 1)", x);
        due("UNLEARN at first", x.best(1), 606);
        x.set(3, 0);
        due("UNLEARN 0", x.best(1), 600);
        x.set(3, 99);
        due("UNLEARN 99", x.best(1), 1194);
        due("UNLEARN 99, one EXCHANGE", x.exchange(1, 0, 1), 1);
        x.set(3, 100);
        due("UNLEARN 100", x.best(1), 1200);
        due("UNLEARN 100, no EXCHANGE", x.exchange(1, 0, 1), -1);
    }

    static void aTreeOfOneCommand() {
        MenuPlanner x = with(6);
        told("(0)", x);
        due("its COST", x.cost(), 6);
        due("its MENUS", x.told(1), 0);
        due("its text", printed(x), "(0)");
    }

    static void aTreeOfOneMenu() {
        MenuPlanner x = with(6, 7);
        told("((0 1))", x);
        due("its COST", x.cost(), 6 * 3 + 7 * 4);
        due("its MENUS", x.told(1), 1);
        due("its text", printed(x), "((0 1))");
    }

    static void aTreeOfNoItemIsNone() {
        faulty(new MenuPlanner(), "()", 1, 1);
        faulty(with(1), "()", 1, 1);
    }

    static void aTreeOfBreadthItems() {
        for (int breadth = 2; breadth <= 9; breadth++) {
            MenuPlanner x = equalOnes(breadth);
            x.set(2, breadth);
            String text = "(" + numbers(0, breadth) + ")";
            told(text, x);
            due("its last PLACE", x.place(breadth - 1, 0), breadth);
            due("its text", printed(x), text);
        }
    }

    static void aTreeOfMoreThanBreadthItemsIsNone() {
        for (int breadth = 2; breadth <= 9; breadth++) {
            MenuPlanner x = equalOnes(breadth + 1);
            x.set(2, breadth);
            faulty(x, "(" + numbers(0, breadth + 1) + ")", 4, 2 * breadth + 1);
            due("there is no TREE", x.cost(), -1);
        }
    }

    static void aMenuOfTwoItems() {
        MenuPlanner x = equalOnes(3);
        x.set(2, 9);
        told("((0 1) 2)", x);
        due("its second ITEM", x.place(1, 1), 2);
        due("no third", x.steps(1), 1 + 1 + 2);
    }

    static void aMenuOfOneItemIsNone() {
        MenuPlanner x = equalOnes(2);
        faulty(x, "((0) 1)", 5, 3);
        due("there is no TREE", x.cost(), -1);
    }

    static void aMenuOfBreadthItems() {
        for (int breadth = 2; breadth <= 9; breadth++) {
            MenuPlanner x = equalOnes(breadth + 1);
            x.set(2, breadth);
            String text = "((" + numbers(0, breadth) + ") " + breadth + ")";
            told(text, x);
            due("its last PLACE", x.place(breadth - 1, 1), breadth);
            due("its text", printed(x), text);
        }
    }

    static void aMenuOfMoreThanBreadthItemsIsNone() {
        for (int breadth = 2; breadth <= 9; breadth++) {
            MenuPlanner x = equalOnes(breadth + 1);
            x.set(2, breadth);
            faulty(x, "((" + numbers(0, breadth + 1) + "))", 4, 2 * breadth + 2);
            due("there is no TREE", x.cost(), -1);
        }
    }

    static void aTreeHasEachCommandJustOnce() {
        MenuPlanner x = equalOnes(3);
        faulty(x, "(0 1)", 6, 5);
        faulty(x, "(0 1 2 1)", 3, 7);
        told("(0 1 2)", x);
    }

    static void thePlaceIsFrom1On() {
        MenuPlanner x = equalOnes(9);
        x.set(0, 10);
        x.set(2, 9);
        told("(0 1 2 3 4 5 6 7 8)", x);
        for (int c = 0; c < 9; c++) {
            due("PLACE of " + c, x.place(c, 0), c + 1);
            due("STEPS to " + c, x.steps(c), 10 * (c + 1));
        }
    }

    static void noDownForTheTreesOwnList() {
        MenuPlanner x = equalOnes(3);
        x.set(1, 50);
        told("(0 (1 2))", x);
        due("no MENU on the way", x.steps(0), 1);
        due("one MENU on the way", x.steps(1), 2 + 50 + 1);
    }

    static void theMostSteps() {
        MenuPlanner x = equalOnes(40);
        x.set(0, 100);
        x.set(1, 100);
        told("(" + chainOf40() + ")", x);
        due("MENUS", x.told(1), 39);
        due("STEPS to the deepest", x.steps(39), 100 * (1 + 38 * 2 + 2) + 100 * 39);
        due("STEPS to the highest", x.steps(0), 100 + 100 + 100);
    }

    static void theCostMayBeGreaterThanAnInt() {
        MenuPlanner x = new MenuPlanner();
        for (int c = 0; c < 40; c++) x.command(10000, 0);
        x.set(0, 100);
        x.set(1, 100);
        told("(" + chainOf40() + ")", x);
        long steps = 0;
        for (int c = 0; c < 39; c++) steps += 300L + 300L * c;
        steps += 400L + 300L * 38;
        due("COST", x.cost(), 10000 * steps);
        due("COST of swap()", x.swap(3, 3), 10000 * steps);
        due("it is greater than an int", 10000 * steps > GREATEST ? 1 : 0, 1);
        x.set(2, 2);
        due("COST of plan()", x.plan(), x.cost());
    }

    static void theCostOf40Commands() {
        MenuPlanner x = with(new int[40]);
        told("(" + chainOf40() + ")", x);
        due("all COUNTS 0", x.cost(), 0);
        x.count(39, 1);
        due("only the last", x.cost(), 1 + 38 * 2 + 2 + 39);
        x.count(39, 0);
        x.count(0, 1);
        due("only the first", x.cost(), 3);
    }

    static void thereIsNoTreeAtFirst() {
        MenuPlanner x = with(1, 2);
        due("cost()", x.cost(), -1);
        due("print()", x.print(), -1);
        due("steps()", x.steps(0), -1);
        due("place()", x.place(0, 0), 0);
        due("misled()", x.misled(0), -1);
        due("best()", x.best(0), -1);
        due("exchange()", x.exchange(1, 0, 0), -1);
        due("swap()", x.swap(0, 1), -1);
        due("told(1)", x.told(1), 0);
    }

    static void breadthToldLaterIsNotAskedOfTheTree() {
        MenuPlanner x = new MenuPlanner();
        for (int c = 0; c < 9; c++) x.command(c, c + 1);
        x.set(2, 9);
        told("(0 1 2 3 4 5 6 7 8)", x);
        String before = state(x).replace("set 1 1 9 1", "set 1 1 2 1").replaceAll("free [0-9]+", "");
        due("BREADTH", x.set(2, 2), 9);
        due("what is told then", state(x).replaceAll("free [0-9]+", ""), before);
        due("print()", printed(x), "(0 1 2 3 4 5 6 7 8)");
        due("swap()", x.swap(0, 8), 8 + 2 + 6 + 12 + 20 + 30 + 42 + 56);
        due("print()", printed(x), "(8 1 2 3 4 5 6 7 0)");
    }

    static void breadthToldLaterIsAskedOfTheNextTree() {
        MenuPlanner x = equalOnes(4);
        due("PLAN of BREADTH 4", x.plan(), 10);
        due("FREE of BREADTH 4", x.free(), 10);
        x.set(2, 2);
        faulty(x, "(0 1 2 3)", 4, 5);
        due("PLAN of BREADTH 2", x.plan(), 16);
        due("FREE of BREADTH 2", x.free(), 16);
        x.set(2, 4);
        told("(0 1 2 3)", x);
        due("PLAN of BREADTH 4 again", x.plan(), 10);
        due("FREE of BREADTH 4 again", x.free(), 10);
    }

    static void aCommandMoreAndThereIsNoTree() {
        MenuPlanner x = with(1, 2, 3);
        told("(0 (1 2))", x);
        due("best() before", x.best(0), x.cost());
        x.print();
        feedText(x, "(0 1 2 3");
        due("a COMMAND more", x.command(4, 0), 3);
        due("cost()", x.cost(), -1);
        due("print()", x.print(), -1);
        for (int c = 0; c < 4; c++) {
            due("steps()", x.steps(c), -1);
            due("place()", x.place(c, 0), 0);
            due("misled()", x.misled(c), -1);
        }
        due("best()", x.best(0), -1);
        due("exchange()", x.exchange(1, 0, 0), -1);
        due("swap()", x.swap(0, 1), -1);
        due("told(1)", x.told(1), 0);
        due("the PAGE stays", page(x), "(0 (1 2))");
        due("the TAPE stays", x.told(2), 20);
        due("the TAPE's bytes stay", x.tell(8), -9);
        due("fault()", x.fault(), 8);
    }

    static void aCommandThatIsRefusedLeavesTheTree() {
        MenuPlanner x = with(1, 2, 3);
        told("(0 (1 2))", x);
        refusedWhole("COUNT", ARGUMENT, x, these(-1, 10001), count -> x.command(count, 0));
        refusedWhole("WORDS", ARGUMENT, x, these(-1, 16777216), words -> x.command(0, words));
        MenuPlanner full = equalOnes(40);
        long cost = full.plan();
        refused("a 41st", STATE, () -> full.command(1, 0));
        due("its COST", full.cost(), cost);
    }

    static void anObjectServesFor512Calls() {
        MenuPlanner x = new MenuPlanner();
        for (int c = 0; c < 40; c++) x.command(1, 0);
        for (int i = 0; i < 470; i++) due("call " + (41 + i), x.count(i % 40, i), i < 40 ? 1 : i - 40);
        long plan = x.plan();
        due("the 512th call", x.cost(), plan);
    }

    public static void main(String[] args) throws ReflectiveOperationException {
        runAll(TermsBoundsTest.class);
    }
}
