/** The promises 1 to 20, one by one: ordinary inputs, the edges that the document names, wrong inputs. */
public final class PromisesTest extends Calls {
    static void newObject1() {
        MenuPlanner x = new MenuPlanner();
        for (int what = 0; what < 4; what++) due("1 told " + what, x.told(what), 0);
        due("1 octet", x.octet(0), -1);
        due("1 fault", x.fault(), -1);
        due("1 print", x.print(), -1);
        due("1 cost", x.cost(), -1);
        due("1 look", x.set(0, 1), 1);
        due("1 down", x.set(1, 1), 1);
        due("1 breadth", x.set(2, 4), 4);
        due("1 unlearn", x.set(3, 1), 1);
        due("1 NONE", MenuPlanner.NONE, -1);
    }

    static void command2() {
        MenuPlanner x = new MenuPlanner();
        due("2 first", x.command(0, 0), 0);
        due("2 second", x.command(10000, 16777215), 1);
        x.plan();
        refused("2 count -1", ARGUMENT, () -> x.command(-1, 0));
        refused("2 count 10001", ARGUMENT, () -> x.command(10001, 0));
        refused("2 words -1", ARGUMENT, () -> x.command(0, -1));
        refused("2 words 2^24", ARGUMENT, () -> x.command(0, 16777216));
        due("2 refused, nothing changes", x.told(0), 2);
        due("2 refused, the tree stays", x.cost(), 20000);
        for (int c = 2; c < 40; c++) due("2 number", x.command(1, 1), c);
        due("2 one more, no tree", x.cost(), -1);
        x.plan();
        refused("2 a 41st", STATE, () -> x.command(1, 1));
        refused("2 a 41st with a wrong count", ARGUMENT, () -> x.command(-1, 1));
        due("2 40", x.told(0), 40);
        due("2 a 41st, the tree stays", x.cost() > 0 ? 1 : 0, 1);
    }

    static void count3() {
        MenuPlanner x = with(5, 7);
        x.plan();
        due("3 was", x.count(1, 10000), 7);
        due("3 was then", x.count(1, 0), 10000);
        due("3 cost goes with it", x.cost(), 5);
        refused("3 command -1", BOUNDS, () -> x.count(-1, 0));
        refused("3 command 2", BOUNDS, () -> x.count(2, 0));
        refused("3 both wrong", BOUNDS, () -> x.count(2, -1));
        refused("3 count -1", ARGUMENT, () -> x.count(0, -1));
        refused("3 count 10001", ARGUMENT, () -> x.count(0, 10001));
        due("3 refused, nothing changes", x.count(0, 1), 5);
    }

    static void words4() {
        MenuPlanner x = new MenuPlanner();
        x.command(1, 6);
        x.command(1, 1);
        x.plan();
        due("4 not misled", x.misled(0), -1);
        due("4 was", x.words(0, 0), 6);
        due("4 misled then", x.misled(0), 0);
        due("4 was then", x.words(0, 16777215), 0);
        refused("4 command -1", BOUNDS, () -> x.words(-1, 0));
        refused("4 command 2", BOUNDS, () -> x.words(2, 0));
        refused("4 both wrong", BOUNDS, () -> x.words(2, -1));
        refused("4 words -1", ARGUMENT, () -> x.words(0, -1));
        refused("4 words 2^24", ARGUMENT, () -> x.words(0, 16777216));
        due("4 refused, nothing changes", x.words(0, 1), 16777215);
    }

    static void set5() {
        MenuPlanner x = with(1, 1);
        x.plan();
        int[] lowest = {1, 0, 2, 0};
        int[] highest = {100, 100, 9, 100};
        int[] first = {1, 1, 4, 1};
        for (int what = 0; what < 4; what++) {
            int w = what;
            due("5 first " + what, x.set(what, lowest[what]), first[what]);
            due("5 lowest " + what, x.set(what, highest[what]), lowest[what]);
            refused("5 too low " + what, ARGUMENT, () -> x.set(w, lowest[w] - 1));
            refused("5 too high " + what, ARGUMENT, () -> x.set(w, highest[w] + 1));
            due("5 highest " + what, x.set(what, first[what]), highest[what]);
        }
        refused("5 what -1", ARGUMENT, () -> x.set(-1, 1));
        refused("5 what 4", ARGUMENT, () -> x.set(4, 2));
        x.set(0, 7);
        due("5 look", x.cost(), 21);
        told("(0 1)", x);
        MenuPlanner y = equalOnes(4);
        told("(0 1 2 3)", y);
        y.set(2, 2);
        due("5 breadth is not asked of the tree", y.cost(), 10);
        due("5 breadth is asked of the next", tellText(y, "(0 1 2 3)"), -6);
    }

    static void feed6() {
        MenuPlanner x = with(1, 1);
        due("6 twenty", x.feed(0x28302031, 0x29000000, 0, 0, 0), 20);
        due("6 the highest first", x.tell(5), 0);
        for (int i = 1; i <= 20; i++) due("6 feed " + i, x.feed(0x20202020, 0x20202020, 0x20202020, 0x20202020, 0x20202028), 20 * i);
        due("6 no more than 400", x.feed(0, 0, 0, 0, 0), -1);
        due("6 nothing done", x.told(2), 400);
        due("6 the last byte", x.tell(400), -9);
        due("6 ends too early", x.fault(), 400);
        due("6 empty then", x.told(2), 0);
        due("6 the order of the five", x.feed(0x20202020, 0x28202020, 0x30202020, 0x31202020, 0x29202020), 20);
        due("6 told", x.tell(20), 0);
    }

    static void tell7() {
        MenuPlanner x = equalOnes(4);
        told("(0 1 2 3)", x);
        told("  ( 3( 2 (1 0 )  ) ) ", x);
        due("7 printed", printed(x), "(3 (2 (1 0)))");
        told("(00 0000000000000000000000000001(2 3))", x);
        due("7 leading zeros", printed(x), "(0 1 (2 3))");
        told("((0 1 2 3))", x);
        due("7 a tree of one menu", printed(x), "((0 1 2 3))");
        due("7 its cost", x.cost(), 18);
        feedText(x, "(0 1 2 3)");
        refused("7 n -1", ARGUMENT, () -> x.tell(-1));
        refused("7 n 21", ARGUMENT, () -> x.tell(21));
        due("7 refused, the tape stays", x.told(2), 20);
        due("7 refused, no fault", x.fault(), -1);
        due("7 the first bytes only", x.tell(9), 0);
        due("7 the tape is empty", x.told(2), 0);
        due("7 nothing told", x.tell(0), -9);
        due("7 a fault, the tree stays", printed(x), "(0 1 2 3)");
        feedText(x, "(0 1 2 3");
        due("7 faulty", x.tell(8), -9);
        due("7 the tape is empty after a fault too", x.told(2), 0);
        refused("7 nothing on the tape", ARGUMENT, () -> x.tell(1));
        due("7 refused, the fault stays", x.fault(), 8);
        told("(0 1 2 3)", x);
        x.command(1, 1);
        due("7 a command more", x.cost(), -1);
        due("7 lacks it", tellText(x, "(0 1 2 3)"), -4);
        due("7 none still", x.cost(), -1);
    }

    static void fault8() {
        MenuPlanner x = equalOnes(4);
        due("8 none yet", x.fault(), -1);
        faulty(x, "", 1, 0);
        faulty(x, "   ", 1, 3);
        faulty(x, "0", 1, 0);
        faulty(x, " )", 1, 1);
        faulty(x, "(", 1, 1);
        faulty(x, "()", 1, 1);
        faulty(x, "(0 ()", 1, 4);
        faulty(x, "(0,1)", 1, 2);
        faulty(x, "(0\t1)", 1, 2);
        faulty(x, "(0 1 2 3) 0", 1, 10);
        faulty(x, "(0 1 2 3))", 1, 9);
        faulty(x, "(0 1 2 3)(", 1, 9);
        faulty(x, "(0)x", 1, 3);
        faulty(x, "(0 \u00b0)", 1, 3);
        faulty(x, "(0 -1)", 1, 3);
        faulty(x, "(0 1 2 3", 1, 8);
        faulty(x, "(4)", 2, 1);
        faulty(x, "(0 4x", 2, 3);
        faulty(x, "(0 01 4294967296)", 2, 6);
        faulty(x, "(0 18446744073709551617)", 2, 3);
        faulty(x, "(0 10)", 2, 3);
        faulty(x, "(0 1 00)", 3, 5);
        faulty(x, "(0 1 2 3 4)", 2, 9);
        faulty(x, "(0 1 2 3 3)", 3, 9);
        faulty(x, "(0 1 2 3 (", 4, 9);
        x.set(2, 2);
        faulty(x, "(0 1 2 3)", 4, 5);
        faulty(x, "((0 1)2 3)", 4, 8);
        faulty(x, "(0 1 (2 3))", 4, 5);
        faulty(x, "(0 1 x", 1, 5);
        faulty(x, "(0 (1) 2)", 5, 5);
        faulty(x, "((0))", 5, 3);
        faulty(x, "(((0 1)))", 5, 7);
        faulty(x, "(0)", 6, 3);
        faulty(x, "(0 (1 3))  ", 6, 11);
        due("8 latest", x.fault(), 11);
        told("(0 (1 (2 3)))", x);
    }

    static void deepTrees() {
        MenuPlanner x = equalOnes(40);
        StringBuilder text = new StringBuilder("(");
        for (int c = 0; c < 38; c++) text.append("(").append(c).append(' ');
        text.append("(38 39");
        for (int c = 0; c < 40; c++) text.append(")");
        told(text.toString(), x);
        due("deep: 40 lists", x.told(1), 39);
        due("deep: the last list", x.place(39, 39), 2);
        due("deep: beyond it", x.place(39, 40), 0);
        due("deep: steps", x.steps(39), 1 + 38 * 2 + 2 + 39);
        due("deep: the way", x.misled(39), 1);
        due("deep: printed as told", printed(x), text.toString());
        due("deep: the longest page", x.told(3), 189);
        faulty(x, "(".repeat(41), 4, 40);
        faulty(x, "(".repeat(40), 1, 40);
        faulty(x, "( ".repeat(40) + "x", 1, 80);
        faulty(x, "((0 1)" + "(".repeat(40), 4, 45);
        String wide = "(" + balanced(0, 40) + "(".repeat(39);
        faulty(x, wide, 1, wide.length());
        faulty(x, wide + "(", 4, wide.length());
    }

    static void plan9() {
        due("9 no commands", new MenuPlanner().plan(), -1);
        MenuPlanner one = with(9);
        due("9 one", one.plan(), 9);
        due("9 one printed", printed(one), "(0)");
        MenuPlanner two = with(0, 0);
        due("9 two", two.plan(), 0);
        due("9 no needless menu", printed(two), "(0 1)");
        MenuPlanner five = with(0, 0, 0, 0, 0);
        five.plan();
        due("9 the fewest commands first", printed(five), "(0 1 2 (3 4))");
        five.set(2, 2);
        five.plan();
        due("9 so in itself", printed(five), "(0 (1 (2 (3 4))))");
        five.set(2, 3);
        five.plan();
        due("9 fewest menus", printed(five), "(0 1 (2 3 4))");
        MenuPlanner last = with(1, 1, 10);
        due("9 the last one dear", last.plan(), 27);
        due("9 its tree", printed(last), "((0 1) 2)");
        last.set(1, 100);
        due("9 going down is dear", last.plan(), 33);
        due("9 its tree", printed(last), "(0 1 2)");
        last.set(2, 2);
        due("9 going down is dear, but must be", last.plan(), 100 + 1 + 1 + 100 + 1 + 2 + 20);
        due("9 its tree", printed(last), "((0 1) 2)");
        MenuPlanner nine = equalOnes(9);
        nine.set(2, 9);
        nine.set(1, 100);
        due("9 nine", nine.plan(), 45);
        due("9 its tree", printed(nine), "(0 1 2 3 4 5 6 7 8)");
        MenuPlanner most = new MenuPlanner();
        for (int c = 0; c < 40; c++) most.command(10000, 0);
        most.set(0, 100);
        most.set(1, 100);
        most.set(2, 2);
        due("9 the greatest", most.plan(), most.cost());
        due("9 the greatest in menus", most.told(1), 38);
    }

    static void cost10() {
        MenuPlanner x = with(2, 3, 5);
        due("10 without a tree", x.cost(), -1);
        told("(2 (0 1))", x);
        due("10 cost", x.cost(), 5 + 2 * (2 + 1 + 1) + 3 * (2 + 1 + 2));
        x.set(0, 10);
        x.set(1, 3);
        due("10 with look and down", x.cost(), 50 + 2 * (20 + 3 + 10) + 3 * (20 + 3 + 20));
        x.command(0, 0);
        due("10 a command more", x.cost(), -1);
        MenuPlanner y = new MenuPlanner();
        for (int c = 0; c < 40; c++) y.command(10000, 0);
        y.set(0, 100);
        y.set(1, 100);
        StringBuilder text = new StringBuilder();
        for (int c = 0; c < 39; c++) text.append("(").append(c).append(' ');
        text.append("39").append(")".repeat(39));
        told(text.toString(), y);
        long want = 0;
        for (int c = 0; c < 39; c++) want += 10000L * (100 + 300L * c);
        want += 10000L * (200 + 300L * 38);
        due("10 beyond an int", y.cost(), want);
    }

    static void print11() {
        MenuPlanner x = equalOnes(12);
        due("11 without a tree", x.print(), -1);
        told("( 11 ( 10 0 )( ( 1 2 ) 3 4)(5 6 7(8 9 )))", x);
        due("11 how many", x.print(), 37);
        due("11 text", printed(x), "(11 (10 0) ((1 2) 3 4) (5 6 7 (8 9)))");
        x.command(1, 1);
        due("11 no tree", x.print(), -1);
        due("11 the page stays", x.told(3), 37);
        due("11 the page stays", x.octet(1), '1');
    }

    static void octet12() {
        MenuPlanner x = with(1, 1);
        due("12 empty", x.octet(0), -1);
        x.plan();
        due("12 not printed yet", x.octet(0), -1);
        x.print();
        due("12 first", x.octet(0), '(');
        due("12 last", x.octet(4), ')');
        due("12 beyond", x.octet(5), -1);
        due("12 before", x.octet(-1), -1);
        due("12 far", x.octet(Integer.MAX_VALUE), -1);
        due("12 far below", x.octet(Integer.MIN_VALUE), -1);
        x.swap(0, 1);
        due("12 the page is as printed", x.octet(1), '0');
        x.count(0, 5);
        MenuPlanner y = equalOnes(3);
        y.plan();
        y.print();
        due("12 longer page", y.octet(6), ')');
    }

    static void steps13() {
        MenuPlanner x = equalOnes(4);
        due("13 without a tree", x.steps(0), -1);
        refused("13 no such command, no tree", BOUNDS, () -> x.steps(4));
        told("(0 (1 (2 3)))", x);
        x.set(0, 10);
        x.set(1, 7);
        due("13 top", x.steps(0), 10);
        due("13 one down", x.steps(1), 20 + 7 + 10);
        due("13 two down", x.steps(3), 20 + 7 + 20 + 7 + 20);
        refused("13 command 4", BOUNDS, () -> x.steps(4));
        refused("13 command -1", BOUNDS, () -> x.steps(-1));
    }

    static void place14() {
        MenuPlanner x = equalOnes(4);
        due("14 without a tree", x.place(0, 0), 0);
        refused("14 no such command, no tree", BOUNDS, () -> x.place(4, 0));
        told("(0 (1 3 2))", x);
        due("14 top", x.place(0, 0), 1);
        due("14 beyond", x.place(0, 1), 0);
        due("14 of the menu", x.place(2, 0), 2);
        due("14 in the menu", x.place(2, 1), 3);
        due("14 beyond", x.place(2, 2), 0);
        due("14 before", x.place(2, -1), 0);
        due("14 far", x.place(2, Integer.MAX_VALUE), 0);
        refused("14 command 4", BOUNDS, () -> x.place(4, 0));
        refused("14 command -1", BOUNDS, () -> x.place(-1, 0));
    }

    static void misled15() {
        MenuPlanner x = new MenuPlanner();
        x.command(1, 1);
        x.command(1, 3);
        x.command(1, 4);
        x.command(1, 8);
        due("15 without a tree", x.misled(0), -1);
        refused("15 no such command, no tree", BOUNDS, () -> x.misled(4));
        told("((0 1) (2 3))", x);
        due("15 at the menu's list", x.misled(0), 1);
        due("15 at none", x.misled(1), -1);
        x.words(0, 5);
        due("15 as many at the tree's list", x.misled(2), 0);
        x.words(0, 16);
        x.words(2, 16);
        due("15 half is enough", x.misled(0), 0);
        told("((0 1) 2 3)", x);
        x.words(0, 1 << 23);
        x.words(1, 0);
        x.words(2, 1 << 23);
        due("15 the highest word", x.misled(2), 0);
        told("((0 1 3) 2)", x);
        due("15 a third is not half", x.misled(2), -1);
        told("((0 (1 3)) 2)", x);
        due("15 commands at any depth", x.misled(2), -1);
        x.words(3, 1 << 23);
        due("15 two of three", x.misled(2), 0);
        told("((0 1 2 3))", x);
        x.words(2, 0);
        due("15 no other item at the tree's list", x.misled(2), 1);
        refused("15 command 4", BOUNDS, () -> x.misled(4));
        refused("15 command -1", BOUNDS, () -> x.misled(-1));
    }

    static void free16() {
        due("16 none", new MenuPlanner().free(), -1);
        due("16 one", with(9).free(), 9);
        MenuPlanner x = with(1, 1, 10);
        due("16 free", x.free(), 15);
        due("16 without a tree still", x.cost(), -1);
        x.set(2, 2);
        due("16 breadth", x.free(), 10 + 4 + 5);
        x.set(1, 0);
        due("16 down", x.free(), 10 + 3 + 4);
        x.set(0, 2);
        due("16 look", x.free(), 34);
        x.count(2, 0);
        due("16 another count", x.free(), 2 * (1 + 3));
        x.command(0, 0);
        due("16 a command more", x.free(), 2 * (1 + 3));
        MenuPlanner ten = equalOnes(10);
        ten.set(2, 9);
        ten.set(1, 100);
        due("16 ten", ten.free(), 44 + 2 * 101 + 3);
        ten.command(1, 1);
        due("16 eleven", ten.free(), -1);
    }

    static void best17() {
        MenuPlanner x = with(1, 1, 10);
        due("17 without a tree", x.best(0), -1);
        refused("17 k -1", ARGUMENT, () -> x.best(-1));
        refused("17 k 4, no tree", ARGUMENT, () -> x.best(4));
        told("(0 1 2)", x);
        due("17 none", x.best(0), 33);
        due("17 one", x.best(1), 26);
        due("17 two", x.best(2), 26);
        x.set(3, 0);
        due("17 nothing to unlearn", x.best(3), 15);
        x.set(3, 100);
        due("17 too much to unlearn", x.best(3), 33);
        x.count(2, 1);
        due("17 another count", x.best(1), 6);
        x.set(3, 0);
        x.count(2, 9);
        x.set(0, 2);
        due("17 another look", x.best(1), 2 * (9 + 2 + 3));
        x.swap(0, 2);
        due("17 another tree", x.best(0), 28);
        MenuPlanner y = equalOnes(12);
        y.plan();
        due("17 twelve", y.best(3), y.cost());
        y.command(1, 1);
        y.plan();
        due("17 thirteen", y.best(3), -1);
        refused("17 thirteen, k 4", ARGUMENT, () -> y.best(4));
        MenuPlanner z = with(1, 2, 3, 4, 5, 6);
        z.set(3, 0);
        z.set(2, 9);
        told("(0 1 2 3 4 5)", z);
        due("17 three exchanges turn it round", z.best(3), 6 + 10 + 12 + 12 + 10 + 6);
        due("17 two do less", z.best(2), 6 + 10 + 9 + 16 + 10 + 6);
        due("17 the tree stays", z.cost(), 91);
    }

    static void exchange18() {
        MenuPlanner z = with(1, 2, 3, 4, 5, 6);
        due("18 without a tree", z.exchange(1, 0, 0), -1);
        refused("18 which 2, no tree", ARGUMENT, () -> z.exchange(1, 0, 2));
        refused("18 k 4, no tree", ARGUMENT, () -> z.exchange(4, 0, 0));
        z.set(3, 0);
        z.set(2, 9);
        told("(0 1 2 3 4 5)", z);
        int[] want = {0, 5, 1, 4, 2, 3};
        for (int i = 0; i < 6; i++) due("18 of three", z.exchange(3, i / 2, i % 2), want[i]);
        for (int i = 0; i < 4; i++) due("18 of two", z.exchange(2, i / 2, i % 2), want[i]);
        due("18 of one", z.exchange(1, 0, 1), 5);
        due("18 no second of one", z.exchange(1, 1, 1), -1);
        due("18 none of none", z.exchange(0, 0, 0), -1);
        due("18 i -1", z.exchange(3, -1, 0), -1);
        due("18 i 3", z.exchange(3, 3, 0), -1);
        due("18 i far", z.exchange(3, Integer.MAX_VALUE, 0), -1);
        refused("18 k -1", ARGUMENT, () -> z.exchange(-1, 0, 0));
        refused("18 k 4", ARGUMENT, () -> z.exchange(4, 0, 0));
        refused("18 which -1", ARGUMENT, () -> z.exchange(1, 0, -1));
        refused("18 which 2", ARGUMENT, () -> z.exchange(1, 7, 2));
        MenuPlanner same = with(1, 5, 5);
        same.set(3, 0);
        told("(0 1 2)", same);
        due("18 of two as good the first: best", same.best(1), 5 + 2 * 5 + 3);
        due("18 of two as good the first", same.exchange(1, 0, 1), 2);
        MenuPlanner tie = with(3, 3, 7);
        tie.set(3, 0);
        told("(0 2 1)", tie);
        due("18 only what makes it less", tie.exchange(3, 0, 0), 0);
        due("18 only what makes it less", tie.exchange(3, 0, 1), 2);
        due("18 fewest", tie.exchange(3, 1, 0), -1);
        for (int c = 6; c < 13; c++) z.command(1, 1);
        z.plan();
        due("18 thirteen", z.exchange(1, 0, 0), -1);
    }

    static void swap19() {
        MenuPlanner x = with(1, 2, 3);
        due("19 without a tree", x.swap(0, 1), -1);
        refused("19 no such command, no tree", BOUNDS, () -> x.swap(0, 3));
        told("(0 (1 2))", x);
        long before = x.cost();
        due("19 swapped", x.swap(0, 2), 3 + 2 * 4 + 5);
        due("19 printed", printed(x), "(2 (1 0))");
        due("19 steps", x.steps(0), 5);
        due("19 place", x.place(0, 1), 2);
        due("19 with itself", x.swap(1, 1), 16);
        due("19 back", x.swap(2, 0), before);
        due("19 printed", printed(x), "(0 (1 2))");
        due("19 in one list", x.swap(1, 2), 1 + 3 * 4 + 2 * 5);
        due("19 printed", printed(x), "(0 (2 1))");
        refused("19 one -1", BOUNDS, () -> x.swap(-1, 0));
        refused("19 one 3", BOUNDS, () -> x.swap(3, 0));
        refused("19 other -1", BOUNDS, () -> x.swap(0, -1));
        refused("19 other 3", BOUNDS, () -> x.swap(0, 3));
    }

    static void told20() {
        MenuPlanner x = equalOnes(5);
        due("20 commands", x.told(0), 5);
        due("20 menus without a tree", x.told(1), 0);
        told("((0 1) (2 (3 4)))", x);
        due("20 menus", x.told(1), 3);
        x.feed(0, 0, 0, 0, 0);
        x.feed(0, 0, 0, 0, 0);
        due("20 tape", x.told(2), 40);
        due("20 page before", x.told(3), 0);
        x.print();
        due("20 page", x.told(3), 17);
        due("20 what -1", x.told(-1), -1);
        due("20 what 4", x.told(4), -1);
        due("20 what far", x.told(Integer.MIN_VALUE), -1);
        x.command(0, 0);
        due("20 menus of no tree", x.told(1), 0);
        due("20 commands then", x.told(0), 6);
    }

    public static void main(String[] args) {
        newObject1();
        command2();
        count3();
        words4();
        set5();
        feed6();
        tell7();
        fault8();
        deepTrees();
        plan9();
        cost10();
        print11();
        octet12();
        steps13();
        place14();
        misled15();
        free16();
        best17();
        exchange18();
        swap19();
        told20();
        end("PromisesTest");
    }
}
