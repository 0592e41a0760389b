/** Each sentence of the promises 1 to 20 that names a boundary case: refused calls, NONE, 0, and what stays then. */
public final class CallBoundsTest extends Calls {
    /** Three COMMANDS with COUNTS and WORDS of their own, a TREE, a PAGE that is not the TREE's, a FAULT, a TAPE. */
    private static MenuPlanner full() {
        MenuPlanner x = new MenuPlanner();
        x.command(3, 5);
        x.command(1, 6);
        x.command(8, 1);
        x.set(0, 3);
        x.set(1, 2);
        x.set(3, 0);
        told("(2 0 1)", x);
        x.print();
        told("(0 (1 2))", x);
        faulty(x, "(0 1 2", 1, 6);
        feedText(x, "(1 (0 2))");
        return x;
    }

    /** Without a TREE, but with all else. */
    private static MenuPlanner treeless() {
        MenuPlanner x = full();
        x.command(4, 7);
        return x;
    }

    /** The numbers that are no COMMAND, where there are so many. */
    private static int[] strangers(MenuPlanner x) {
        int n = x.told(0);
        return new int[] {-1, n, n + 1, 40, LEAST, GREATEST};
    }

    static void newObjectHasNoCommands1() {
        MenuPlanner x = new MenuPlanner();
        due("COMMANDS", x.told(0), 0);
        for (int command : strangers(x)) refused("COMMAND " + command, BOUNDS, () -> x.count(command, 0));
        refused("COMMAND 0", BOUNDS, () -> x.count(0, 0));
        due("PLAN", x.plan(), -1);
    }

    static void newObjectHasNoTree1() {
        MenuPlanner x = new MenuPlanner();
        due("COST", x.cost(), -1);
        due("MENUS", x.told(1), 0);
        due("print()", x.print(), -1);
        due("best()", x.best(0), -1);
    }

    static void newObjectHasAnEmptyPage1() {
        MenuPlanner x = new MenuPlanner();
        due("bytes of the PAGE", x.told(3), 0);
        for (int k : these(0, -1, 1, 188, LEAST, GREATEST)) due("octet(" + k + ")", x.octet(k), -1);
    }

    static void newObjectHasNoTapeAndNoFault1() {
        MenuPlanner x = new MenuPlanner();
        due("bytes of the TAPE", x.told(2), 0);
        due("fault()", x.fault(), -1);
        refused("tell(1)", ARGUMENT, () -> x.tell(1));
    }

    static void objectsDoNotShareWhatTheyHold1() {
        MenuPlanner one = full();
        String before = state(one);
        MenuPlanner other = new MenuPlanner();
        other.command(9, 9);
        other.set(0, 50);
        other.plan();
        other.print();
        other.feed(0, 0, 0, 0, 0);
        due("what is told of the one", state(one), before);
    }

    static void commandOfAWrongCountIsRefused2() {
        MenuPlanner x = full();
        refusedWhole("COUNT", ARGUMENT, x, these(-1, 10001), count -> x.command(count, 1));
    }

    static void commandOfWrongWordsIsRefused2() {
        MenuPlanner x = full();
        refusedWhole("WORDS", ARGUMENT, x, these(-1, 16777216), words -> x.command(1, words));
    }

    static void commandBeyond40IsRefused2() {
        MenuPlanner x = equalOnes(40);
        long cost = x.plan();
        x.print();
        x.feed(0, 0, 0, 0, 0);
        refused("a 41st", STATE, () -> x.command(1, 1));
        refused("a 41st again", STATE, () -> x.command(0, 0));
        refused("a 41st of a wrong COUNT", ARGUMENT, () -> x.command(10001, 0));
        refused("a 41st of wrong WORDS", ARGUMENT, () -> x.command(0, 16777216));
        due("COMMANDS", x.told(0), 40);
        due("COST", x.cost(), cost);
        due("TAPE", x.told(2), 20);
        due("PAGE", x.octet(0), '(');
        for (int c = 0; c < 40; c++) due("COUNT of " + c, x.count(c, 1), 1);
    }

    static void countOfNoSuchCommandIsRefused3() {
        MenuPlanner x = full();
        refusedWhole("count of", BOUNDS, x, strangers(x), c -> x.count(c, 1));
        refusedWhole("a wrong count of", BOUNDS, x, strangers(x), c -> x.count(c, -1));
        refused("count of 0 without COMMANDS", BOUNDS, () -> new MenuPlanner().count(0, 1));
    }

    static void countThatIsWrongIsRefused3() {
        MenuPlanner x = full();
        refusedWhole("COUNT", ARGUMENT, x, these(-1, 10001, LEAST, GREATEST), count -> x.count(0, count));
    }

    static void countLeavesTheTreeAndThePage3() {
        MenuPlanner x = full();
        due("what it was", x.count(2, 0), 8);
        due("COST", x.cost(), 3 * 3 + 11);
        due("PAGE", page(x), "(2 0 1)");
        due("the same again", x.count(2, 0), 0);
        due("STEPS", x.steps(2), 14);
        due("TAPE", x.told(2), 20);
        due("FAULT", x.fault(), 6);
    }

    static void wordsOfNoSuchCommandAreRefused4() {
        MenuPlanner x = full();
        refusedWhole("words of", BOUNDS, x, strangers(x), c -> x.words(c, 1));
        refusedWhole("wrong words of", BOUNDS, x, strangers(x), c -> x.words(c, -1));
        refused("words of 0 without COMMANDS", BOUNDS, () -> new MenuPlanner().words(0, 1));
    }

    static void wordsThatAreWrongAreRefused4() {
        MenuPlanner x = full();
        refusedWhole("WORDS", ARGUMENT, x, these(-1, 16777216, LEAST, GREATEST), words -> x.words(0, words));
    }

    static void wordsLeaveTheTree4() {
        MenuPlanner x = full();
        long cost = x.cost();
        due("what they were", x.words(2, 0), 1);
        due("what they were", x.words(2, 16777215), 0);
        due("COST", x.cost(), cost);
        due("MENUS", x.told(1), 1);
    }

    static void setOfAnotherWhatIsRefused5() {
        MenuPlanner x = full();
        int[] others = {-1, 4, 5, LEAST, GREATEST};
        refusedWhole("what", ARGUMENT, x, others, what -> x.set(what, 2));
        refusedWhole("what, with a wrong v", ARGUMENT, x, others, what -> x.set(what, -1));
    }

    static void setOfAWrongVIsRefused5() {
        int[] least = {1, 0, 2, 0};
        int[] greatest = {100, 100, 9, 100};
        int[] whats = {0, 1, 2, 3};
        MenuPlanner x = full();
        refusedWhole("too low", ARGUMENT, x, whats, what -> x.set(what, least[what] - 1));
        refusedWhole("too high", ARGUMENT, x, whats, what -> x.set(what, greatest[what] + 1));
    }

    static void setLeavesTheTree5() {
        MenuPlanner x = full();
        for (int what = 0; what < 4; what++) x.set(what, 2);
        due("MENUS", x.told(1), 1);
        due("STEPS", x.steps(2), 2 * 2 + 2 + 2 * 2);
        due("PAGE", page(x), "(2 0 1)");
    }

    static void feedComesTo400Bytes6() {
        MenuPlanner x = with(1);
        for (int i = 1; i <= 19; i++) due("feed " + i, x.feed(0x20202020, 0x20202020, 0x20202020, 0x20202020, 0x20202020), 20 * i);
        due("feed 20", x.feed(0x20202020, 0x20202020, 0x20202020, 0x20202020, 0x20283029), 400);
        due("bytes of the TAPE", x.told(2), 400);
        due("the last of them", x.tell(400), 0);
    }

    static void feedBeyond400DoesNothing6() {
        MenuPlanner x = with(1);
        feedText(x, "(" + " ".repeat(397) + "0)");
        due("bytes of the TAPE", x.told(2), 400);
        idle("feed", -1, x, () -> x.feed(0, 0, 0, 0, 0));
        idle("feed again", -1, x, () -> x.feed(-1, -1, -1, -1, -1));
        due("the bytes stay", x.tell(400), 0);
    }

    static void feedMayGoOnBehindTell6() {
        MenuPlanner x = with(1);
        for (int i = 0; i < 20; i++) x.feed(0, 0, 0, 0, 0);
        due("it is full", x.feed(0, 0, 0, 0, 0), -1);
        due("tell", x.tell(0), -9);
        due("feed", x.feed(0x28302900, 0, 0, 0, 0), 20);
        due("tell", x.tell(3), 0);
    }

    static void feedPutsTheHighestByteOfEachFirst6() {
        MenuPlanner x = equalOnes(12);
        x.set(2, 9);
        due("feed", x.feed(0x28313120, 0x31302039, 0x20382037, 0x20362835, 0x20342033), 20);
        due("feed", x.feed(0x20322031, 0x20302929, 0, 0, 0), 40);
        due("tell", x.tell(28), 0);
        due("printed", printed(x), "(11 10 9 8 7 6 (5 4 3 2 1 0))");
    }

    static void feedTakesBytesAbove127() {
        MenuPlanner x = equalOnes(2);
        due("feed", x.feed(0x2830a031, 0x29000000, 0, 0, 0), 20);
        due("160 is no blank", x.tell(5), -9);
        due("at its place", x.fault(), 2);
        x.feed(0xa8302031, 0x29000000, 0, 0, 0);
        due("168 is no bracket", x.tell(5), -9);
        due("at its place", x.fault(), 0);
        x.feed(0x2830b120, 0x31290000, 0, 0, 0);
        due("177 is no digit", x.tell(6), -9);
        due("at its place", x.fault(), 2);
    }

    static void tellOfAWrongNIsRefused7() {
        MenuPlanner x = full();
        refusedWhole("tell", ARGUMENT, x, these(-1, 21, 400, LEAST, GREATEST), n -> x.tell(n));
        due("the TAPE's bytes stay", x.tell(9), 0);
        due("printed", printed(x), "(1 (0 2))");
    }

    static void tellOfAnEmptyTapeIsRefused7() {
        MenuPlanner x = full();
        x.tell(9);
        refusedWhole("tell", ARGUMENT, x, these(-1, 1, 20), n -> x.tell(n));
        MenuPlanner y = new MenuPlanner();
        refusedWhole("tell of a new object", ARGUMENT, y, these(-1, 1, 20), n -> y.tell(n));
    }

    static void tellOf401BytesIsRefused7() {
        MenuPlanner x = with(1);
        feedText(x, "(0)" + " ".repeat(397));
        refused("tell(401)", ARGUMENT, () -> x.tell(401));
        due("the TAPE stays", x.told(2), 400);
        due("tell(400)", x.tell(400), 0);
    }

    static void tellMayTakeAllOrNoneOfTheTape7() {
        MenuPlanner x = with(1);
        feedText(x, "(0)" + " ".repeat(17));
        due("all", x.tell(20), 0);
        due("the TAPE is empty", x.told(2), 0);
        feedText(x, "(0)");
        due("none", x.tell(0), -9);
        due("the TAPE is empty", x.told(2), 0);
        due("none of an empty one", x.tell(0), -9);
    }

    static void tellEmptiesTheTape7() {
        MenuPlanner x = equalOnes(2);
        feedText(x, "(0 1)(1 0)");
        due("the first bytes", x.tell(5), 0);
        due("the TAPE is empty", x.told(2), 0);
        refused("the other bytes are gone", ARGUMENT, () -> x.tell(1));
        feedText(x, "(1 0)");
        due("the TAPE begins anew", x.told(2), 20);
        due("tell", x.tell(5), 0);
        due("printed", printed(x), "(1 0)");
    }

    static void tellOfAFaultChangesNothingButFaultAndTheTape7() {
        String[] texts = {"(2 x", "(2 (0 9))", "(2 (0 0))", "(2 (0 1 (", "(2 (0))", "(2 (1))", "(2 0)", "", "(".repeat(41)};
        for (String text : texts) {
            MenuPlanner x = full();
            x.tell(0);
            String before = state(x).replaceAll("fault -?[0-9]+", "");
            due("tell of " + text + " is a FAULT", tellText(x, text) < 0 ? 1 : 0, 1);
            due("tell of " + text + ", what is told then", state(x).replaceAll("fault -?[0-9]+", ""), before);
            due("printed", printed(x), "(0 (1 2))");
        }
    }

    static void tellOfAFaultLeavesNoTreeWhereThereIsNone7() {
        MenuPlanner x = equalOnes(2);
        faulty(x, "(0 1", 1, 4);
        due("COST", x.cost(), -1);
        due("MENUS", x.told(1), 0);
    }

    static void tellTellsEachFaultLess10() {
        MenuPlanner x = equalOnes(2);
        due("1", tellText(x, "x"), -9);
        due("2", tellText(x, "(2)"), -8);
        due("3", tellText(x, "(0 0)"), -7);
        due("4", tellText(x, "(".repeat(41)), -6);
        due("5", tellText(x, "((0))"), -5);
        due("6", tellText(x, "(0)"), -4);
        due("none", tellText(x, "(0 1)"), 0);
    }

    static void tellWithoutCommandsIsAlwaysAFault7() {
        for (String text : new String[] {"", "()", "(0)", "(", ")", " "}) {
            MenuPlanner x = new MenuPlanner();
            due("tell of " + text, tellText(x, text) < 0 ? 1 : 0, 1);
            due("COST", x.cost(), -1);
        }
    }

    static void faultIsNoneWithoutOne8() {
        MenuPlanner x = equalOnes(2);
        due("before a tell()", x.fault(), -1);
        faulty(x, "(0 2)", 2, 3);
        told("(0 1)", x);
        due("behind a tell() without FAULT", x.fault(), -1);
    }

    static void faultAtTheFirstAndBehindTheLastByte8() {
        MenuPlanner x = equalOnes(2);
        faulty(x, "x", 1, 0);
        faulty(x, "(" + " ".repeat(399), 1, 400);
        faulty(x, " ".repeat(399) + "x", 1, 399);
        faulty(x, "(0)" + " ".repeat(397), 6, 400);
    }

    static void faultIsOfTheLatestTell8() {
        MenuPlanner x = equalOnes(2);
        faulty(x, "(0 2)", 2, 3);
        faulty(x, "x", 1, 0);
        due("asked again", x.fault(), 0);
        refused("a tell() that is refused", ARGUMENT, () -> x.tell(1));
        due("it tells no FAULT and takes none away", x.fault(), 0);
        x.plan();
        x.command(1, 1);
        x.set(2, 2);
        x.feed(0, 0, 0, 0, 0);
        due("other calls leave it", x.fault(), 0);
    }

    static void planWithoutCommandsChangesNothing9() {
        MenuPlanner x = new MenuPlanner();
        x.feed(0, 0, 0, 0, 0);
        idle("plan()", -1, x, x::plan);
    }

    static void planLeavesThePageTheTapeAndTheFault9() {
        MenuPlanner x = full();
        due("plan()", x.plan(), x.cost());
        due("PAGE", page(x), "(2 0 1)");
        due("TAPE", x.told(2), 20);
        due("FAULT", x.fault(), 6);
        due("printed", printed(x), "((0 1) 2)");
    }

    static void planTwiceIsTheSame9() {
        MenuPlanner x = full();
        long cost = x.plan();
        idle("plan() again", cost, x, x::plan);
        x.swap(0, 2);
        due("plan() behind a swap()", x.plan(), cost);
        due("printed", printed(x), "((0 1) 2)");
    }

    static void planIsOfTheCountsAndSettingsThen9() {
        MenuPlanner x = with(1, 1, 10);
        due("at first", x.plan(), 27);
        x.count(2, 1);
        due("another COUNT", x.plan(), 6);
        x.set(0, 10);
        due("another LOOK", x.plan(), 60);
        x.set(2, 2);
        due("another BREADTH", x.plan(), 20 + 30 + 20 + 2);
        x.set(1, 0);
        due("another DOWN", x.plan(), 20 + 30 + 20);
        x.command(0, 0);
        due("a COMMAND more", x.plan(), 20 + 30 + 30);
    }

    static void costWithoutATree10() {
        MenuPlanner x = treeless();
        idle("cost()", -1, x, x::cost);
        MenuPlanner y = new MenuPlanner();
        idle("cost()", -1, y, y::cost);
    }

    static void costOfNothingIs0AndNotNone10() {
        MenuPlanner x = with(0, 0);
        told("(0 1)", x);
        due("cost()", x.cost(), 0);
    }

    static void printWithoutATreeLeavesThePage11() {
        MenuPlanner x = treeless();
        due("the PAGE", page(x), "(2 0 1)");
        idle("print()", -1, x, x::print);
        MenuPlanner y = new MenuPlanner();
        idle("print() of nothing", -1, y, y::print);
    }

    static void printOfAShorterTreeLeavesNoneOfALonger11() {
        MenuPlanner x = equalOnes(4);
        told("(0 (1 (2 3)))", x);
        due("the longer", x.print(), 13);
        told("(3 2 1 0)", x);
        due("the shorter", x.print(), 9);
        due("the PAGE", page(x), "(3 2 1 0)");
        due("behind it", x.octet(9), -1);
        due("its bytes", x.told(3), 9);
    }

    static void printOfNumbersOfOneAndTwoDigits11() {
        MenuPlanner x = equalOnes(11);
        x.set(2, 9);
        told("(8 9 10 (0 1 2 3 4 5 6 7))", x);
        due("print()", x.print(), 26);
        due("the PAGE", page(x), "(8 9 10 (0 1 2 3 4 5 6 7))");
    }

    static void octetBelowAndAboveThePage12() {
        MenuPlanner x = full();
        for (int k : these(-1, 7, 8, 188, 189, 190, 400, LEAST, GREATEST)) due("octet(" + k + ")", x.octet(k), -1);
        due("the first", x.octet(0), '(');
        due("the last", x.octet(6), ')');
    }

    static void stepsWithoutATree13() {
        MenuPlanner x = treeless();
        for (int c = 0; c < 4; c++) {
            int command = c;
            idle("steps(" + c + ")", -1, x, () -> x.steps(command));
        }
    }

    static void stepsOfNoSuchCommandAreRefused13() {
        MenuPlanner x = full();
        refusedWhole("steps of", BOUNDS, x, strangers(x), c -> x.steps(c));
        MenuPlanner y = treeless();
        refusedWhole("steps without a TREE of", BOUNDS, y, strangers(y), c -> y.steps(c));
        refused("steps(0) without COMMANDS", BOUNDS, () -> new MenuPlanner().steps(0));
    }

    static void placeBeyondTheLastList14() {
        MenuPlanner x = full();
        due("place(2, 0)", x.place(2, 0), 2);
        due("place(2, 1)", x.place(2, 1), 2);
        for (int k : these(2, 3, 39, 40, 80, GREATEST)) due("place(2, " + k + ")", x.place(2, k), 0);
        due("place(0, 0)", x.place(0, 0), 1);
        due("place(0, 1)", x.place(0, 1), 0);
    }

    static void placeBelowTheFirstList14() {
        MenuPlanner x = full();
        for (int k : these(-1, -2, -40, LEAST)) due("place(2, " + k + ")", x.place(2, k), 0);
    }

    static void placeOfThe40thList14() {
        MenuPlanner x = equalOnes(40);
        told("(" + chainOf40() + ")", x);
        due("place(39, 0)", x.place(39, 0), 1);
        for (int k = 1; k <= 39; k++) due("place(39, " + k + ")", x.place(39, k), 2);
        due("place(38, 39)", x.place(38, 39), 1);
        due("place(39, 40)", x.place(39, 40), 0);
    }

    static void placeWithoutATree14() {
        MenuPlanner x = treeless();
        String before = state(x);
        for (int k : these(-1, 0, 1, LEAST, GREATEST)) due("place(0, " + k + ")", x.place(0, k), 0);
        due("what is told then", state(x), before);
    }

    static void placeOfNoSuchCommandIsRefused14() {
        MenuPlanner x = full();
        refusedWhole("place of", BOUNDS, x, strangers(x), c -> x.place(c, 0));
        refusedWhole("place -1 of", BOUNDS, x, strangers(x), c -> x.place(c, -1));
        MenuPlanner y = treeless();
        refusedWhole("place without a TREE of", BOUNDS, y, strangers(y), c -> y.place(c, 0));
        refused("place(0, 0) without COMMANDS", BOUNDS, () -> new MenuPlanner().place(0, 0));
    }

    static void misledAtNone15() {
        MenuPlanner x = new MenuPlanner();
        for (int c = 0; c < 3; c++) x.command(1, 1 << c);
        told("(0 (1 2))", x);
        for (int c = 0; c < 3; c++) due("misled(" + c + ")", x.misled(c), -1);
    }

    static void misledWithoutATree15() {
        MenuPlanner x = treeless();
        for (int c = 0; c < 4; c++) {
            int command = c;
            idle("misled(" + c + ")", -1, x, () -> x.misled(command));
        }
    }

    static void misledOfNoSuchCommandIsRefused15() {
        MenuPlanner x = full();
        refusedWhole("misled of", BOUNDS, x, strangers(x), c -> x.misled(c));
        MenuPlanner y = treeless();
        refusedWhole("misled without a TREE of", BOUNDS, y, strangers(y), c -> y.misled(c));
        refused("misled(0) without COMMANDS", BOUNDS, () -> new MenuPlanner().misled(0));
    }

    static void freeWithoutCommands16() {
        MenuPlanner x = new MenuPlanner();
        idle("free()", -1, x, x::free);
    }

    static void freeOfMoreThan10Commands16() {
        MenuPlanner x = equalOnes(11);
        x.plan();
        idle("free()", -1, x, x::free);
    }

    static void freeNeedsNoTreeAndChangesNone16() {
        MenuPlanner x = treeless();
        idle("free()", 3 * (8 + 2 * 4 + 3 * 3 + 4), x, x::free);
        MenuPlanner y = full();
        idle("free()", 3 * (8 + 2 * 3 + 3), y, y::free);
    }

    static void freeOfNothingIs0AndNotNone16() {
        due("free()", with(0).free(), 0);
        due("free()", with(new int[10]).free(), 0);
    }

    static void freeIsOfTheCountsAndSettingsThen16() {
        MenuPlanner x = with(1, 2);
        due("at first", x.free(), 2 + 2);
        x.count(0, 5);
        due("another COUNT", x.free(), 5 + 4);
        x.set(0, 10);
        due("another LOOK", x.free(), 50 + 40);
        x.command(1, 0);
        due("a COMMAND more", x.free(), 50 + 40 + 30);
        x.set(2, 2);
        due("another BREADTH", x.free(), 50 + 2 * (20 + 10) + 20 + 20 + 3);
        x.set(1, 0);
        due("another DOWN", x.free(), 50 + 2 * (20 + 10) + 20 + 20);
    }

    static void bestWithoutATree17() {
        MenuPlanner x = treeless();
        for (int k = 0; k <= 3; k++) {
            int most = k;
            idle("best(" + k + ")", -1, x, () -> x.best(most));
        }
        MenuPlanner y = new MenuPlanner();
        idle("best(0) without COMMANDS", -1, y, () -> y.best(0));
    }

    static void bestOfMoreThan12Commands17() {
        MenuPlanner x = equalOnes(13);
        long cost = x.plan();
        for (int k = 0; k <= 3; k++) due("best(" + k + ")", x.best(k), -1);
        due("the TREE stays", x.cost(), cost);
    }

    static void bestOfAWrongKIsRefused17() {
        int[] wrong = {-1, 4, LEAST, GREATEST};
        MenuPlanner x = full();
        refusedWhole("best", ARGUMENT, x, wrong, k -> x.best(k));
        MenuPlanner y = treeless();
        refusedWhole("best without a TREE", ARGUMENT, y, wrong, k -> y.best(k));
        MenuPlanner z = new MenuPlanner();
        refusedWhole("best without COMMANDS", ARGUMENT, z, wrong, k -> z.best(k));
        MenuPlanner many = equalOnes(13);
        many.plan();
        refused("best(4) of 13", ARGUMENT, () -> many.best(4));
        refused("best(-1) of 13", ARGUMENT, () -> many.best(-1));
    }

    static void bestChangesNothing17() {
        MenuPlanner x = full();
        long cost = 3 * 3 + 11 + 8 * 14;
        idle("best(0)", cost, x, () -> x.best(0));
        idle("best(1)", cost - (8 - 3) * (14 - 3), x, () -> x.best(1));
    }

    static void bestIsOfTheCountsSettingsAndTreeThen17() {
        MenuPlanner x = with(1, 3);
        told("(0 1)", x);
        due("at first", x.best(1), 7);
        x.set(3, 0);
        due("another UNLEARN", x.best(1), 5);
        x.count(1, 9);
        due("another COUNT", x.best(1), 11);
        x.set(0, 10);
        due("another LOOK", x.best(1), 110);
        told("((0 1))", x);
        due("another TREE", x.best(1), 110 + 110);
        x.set(1, 0);
        x.set(1, 2);
        due("best", x.best(1), 110 + 120);
        x.swap(0, 1);
        due("behind a swap()", x.best(0), 110 + 120);
        x.plan();
        due("behind a plan()", x.best(0), 10 + 180);
    }

    static void exchangeWithoutATree18() {
        MenuPlanner x = treeless();
        idle("exchange(3, 0, 0)", -1, x, () -> x.exchange(3, 0, 0));
        idle("exchange(3, 0, 1)", -1, x, () -> x.exchange(3, 0, 1));
        due("exchange(0, -1, 1)", x.exchange(0, -1, 1), -1);
    }

    static void exchangeOfMoreThan12Commands18() {
        MenuPlanner x = new MenuPlanner();
        for (int c = 0; c < 12; c++) x.command(c, 0);
        x.set(3, 0);
        x.plan();
        due("of 12", x.exchange(1, 0, 1) >= 0 ? 1 : 0, 1);
        x.command(12, 0);
        x.plan();
        due("of 13", x.exchange(1, 0, 0), -1);
        due("of 13", x.exchange(1, 0, 1), -1);
    }

    static void exchangeBelowAndAboveTheRow18() {
        MenuPlanner x = full();
        due("the first of k 1", x.exchange(1, 0, 1), 2);
        due("the last of k 2", x.exchange(2, 1, 1), 2);
        for (int k = 0; k <= 3; k++) {
            for (int i : these(-1, 3, 4, LEAST, GREATEST)) {
                due("exchange(" + k + ", " + i + ", 0)", x.exchange(k, i, 0), -1);
                due("exchange(" + k + ", " + i + ", 1)", x.exchange(k, i, 1), -1);
            }
        }
        due("no third of k 3", x.exchange(3, 2, 0), -1);
        due("no third of k 2", x.exchange(2, 2, 0), -1);
        due("no second of k 1", x.exchange(1, 1, 0), -1);
        due("no first of k 0", x.exchange(0, 0, 0), -1);
    }

    static void exchangeOfAWrongKIsRefused18() {
        int[] wrong = {-1, 4, LEAST, GREATEST};
        MenuPlanner x = full();
        refusedWhole("k", ARGUMENT, x, wrong, k -> x.exchange(k, 0, 0));
        refusedWhole("k, where i is beyond", ARGUMENT, x, wrong, k -> x.exchange(k, 9, 1));
        MenuPlanner y = treeless();
        refusedWhole("k without a TREE", ARGUMENT, y, wrong, k -> y.exchange(k, 0, 0));
    }

    static void exchangeOfAnotherWhichIsRefused18() {
        int[] others = {-1, 2, LEAST, GREATEST};
        MenuPlanner x = full();
        refusedWhole("which", ARGUMENT, x, others, which -> x.exchange(1, 0, which));
        refusedWhole("which, where i is beyond", ARGUMENT, x, others, which -> x.exchange(1, 9, which));
        MenuPlanner y = treeless();
        refusedWhole("which without a TREE", ARGUMENT, y, others, which -> y.exchange(0, 0, which));
        MenuPlanner many = equalOnes(13);
        many.plan();
        refused("which 2 of 13", ARGUMENT, () -> many.exchange(0, 0, 2));
    }

    static void swapWithoutATreeDoesNothing19() {
        MenuPlanner x = treeless();
        idle("swap(0, 1)", -1, x, () -> x.swap(0, 1));
        idle("swap(2, 2)", -1, x, () -> x.swap(2, 2));
        x.tell(0);
        told("(0 1 2 3)", x);
        due("printed", printed(x), "(0 1 2 3)");
    }

    static void swapOfNoSuchCommandIsRefused19() {
        MenuPlanner x = full();
        refusedWhole("one", BOUNDS, x, strangers(x), c -> x.swap(c, 0));
        refusedWhole("other", BOUNDS, x, strangers(x), c -> x.swap(0, c));
        refusedWhole("both", BOUNDS, x, strangers(x), c -> x.swap(c, c));
        MenuPlanner y = treeless();
        refusedWhole("one, without a TREE", BOUNDS, y, strangers(y), c -> y.swap(c, 0));
        refusedWhole("other, without a TREE", BOUNDS, y, strangers(y), c -> y.swap(0, c));
    }

    static void swapOfACommandWithItself19() {
        MenuPlanner x = full();
        for (int c = 0; c < 3; c++) {
            int command = c;
            idle("swap(" + c + ", " + c + ")", 3 * 3 + 11 + 8 * 14, x, () -> x.swap(command, command));
        }
    }

    static void swapOfTheFirstAndTheLast19() {
        MenuPlanner x = equalOnes(40);
        told(chainOf40(), x);
        long cost = x.cost();
        due("COST", x.swap(39, 0), cost);
        due("the first is the last", x.place(0, 38), 2);
        due("the last is the first", x.place(39, 0), 1);
        due("the last has no LIST more", x.place(39, 1), 0);
    }

    static void toldOfOthersIsNone20() {
        MenuPlanner x = full();
        String before = state(x);
        for (int what : these(-1, 4, 5, LEAST, GREATEST)) due("told(" + what + ")", x.told(what), -1);
        due("what is told then", state(x), before);
    }

    static void toldOfMenusIs0Without20() {
        due("without COMMANDS", new MenuPlanner().told(1), 0);
        MenuPlanner x = full();
        due("with a TREE", x.told(1), 1);
        x.command(0, 0);
        due("without a TREE", x.told(1), 0);
        x.tell(0);
        told("(0 1 2 3)", x);
        due("with a TREE without MENUS", x.told(1), 0);
    }

    static void toldOfTheMostOfEach20() {
        MenuPlanner x = equalOnes(40);
        told("(" + chainOf40() + ")", x);
        x.print();
        for (int i = 0; i < 21; i++) x.feed(0, 0, 0, 0, 0);
        due("COMMANDS", x.told(0), 40);
        due("MENUS", x.told(1), 39);
        due("bytes of the TAPE", x.told(2), 400);
        due("bytes of the PAGE", x.told(3), 189);
    }

    public static void main(String[] args) throws ReflectiveOperationException {
        runAll(CallBoundsTest.class);
    }
}
