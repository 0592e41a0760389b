import java.util.stream.IntStream;

/** Each sentence of "Terms", part 2, that names a boundary case: TREES as texts, and the FAULTS at their places. */
public final class TextBoundsTest extends Calls {
    private static final String SIGNS = "() 0123456789";

    static void theShortestText() {
        MenuPlanner x = with(1);
        told("(0)", x);
        due("printed", printed(x), "(0)");
    }

    static void theLongestText() {
        MenuPlanner x = with(1, 1);
        String text = " ".repeat(197) + "(0 1)" + " ".repeat(198);
        due("its length", text.length(), 400);
        told(text, x);
        due("printed", printed(x), "(0 1)");
    }

    static void blanksMayStandBetweenAll() {
        MenuPlanner x = equalOnes(4);
        told("  (  0  (  1  (  2  3  )  )  )  ", x);
        due("printed", printed(x), "(0 (1 (2 3)))");
    }

    static void noBlankIsNeededAtABracket() {
        MenuPlanner x = equalOnes(6);
        told("(0(1 2)3(4 5))", x);
        due("printed", printed(x), "(0 (1 2) 3 (4 5))");
        told("((0 1)(2 3)(4 5))", x);
        due("printed", printed(x), "((0 1) (2 3) (4 5))");
    }

    static void oneBlankAtLeastBetweenTwoNumbers() {
        MenuPlanner x = equalOnes(2);
        told("(0 1)", x);
        told("(0          1)", x);
        faulty(x, "(01)", 6, 4);
        MenuPlanner y = equalOnes(12);
        faulty(y, "(1 0)", 6, 5);
        faulty(y, "(10)", 6, 4);
        faulty(y, "(12)", 2, 1);
    }

    static void printedWithoutBlanksButOneBetweenTwoItems() {
        MenuPlanner x = equalOnes(12);
        told(" ( ( 0 1 ) 2 ( 3  ( 4 5 ) )( 6 ( 7 8 ) (9 10) 11 ) ) ", x);
        String want = "((0 1) 2 (3 (4 5)) (6 (7 8) (9 10) 11))";
        due("how many bytes", x.print(), want.length());
        due("printed", page(x), want);
    }

    static void theLongestPage() {
        MenuPlanner x = equalOnes(40);
        String text = "(" + chainOf40() + ")";
        told(text, x);
        due("how many bytes", x.print(), 189);
        due("bytes of the PAGE", x.told(3), 189);
        due("printed", page(x), text);
        due("the last byte", x.octet(188), ')');
        due("none behind it", x.octet(189), -1);
    }

    static void aNumberHasAsManyDigitsAsStandThere() {
        MenuPlanner x = equalOnes(2);
        told("(000 0000000001)", x);
        due("printed", printed(x), "(0 1)");
        told("(" + "0".repeat(398) + ")", with(1));
        MenuPlanner y = equalOnes(2);
        told("(" + "0".repeat(395) + "1 0)", y);
        due("printed", printed(y), "(1 0)");
    }

    static void aNumberOfManyDigitsIsNoCommand() {
        for (int digits = 3; digits <= 398; digits++) {
            MenuPlanner x = equalOnes(40);
            faulty(x, "(1" + "0".repeat(digits - 1) + ")", 2, 1);
            faulty(x, "(" + "9".repeat(digits) + ")", 2, 1);
        }
    }

    static void aNumberDoesNotWrapAround() {
        MenuPlanner x = equalOnes(40);
        String[] texts = {"256", "257", "65536", "65537", "2147483648", "4294967295", "4294967296", "4294967297",
            "9223372036854775808", "18446744073709551615", "18446744073709551616", "18446744073709551617",
            "340282366920938463463374607431768211456", "340282366920938463463374607431768211457"};
        for (String text : texts) faulty(x, "(0 " + text + ")", 2, 3);
        for (String text : texts) faulty(x, "(0 00" + text + ")", 2, 3);
    }

    static void aNumberEndsWhereTheTextEnds() {
        MenuPlanner x = equalOnes(2);
        feedText(x, "(0 12)");
        due("tell of (0 1", x.tell(4), -9);
        due("it ends too early", x.fault(), 4);
        feedText(x, "(0 12)");
        due("tell of (0 12", x.tell(5), -8);
        due("12 is no COMMAND", x.fault(), 3);
    }

    static void fault1AByteThatStandsNowhere() {
        for (int sign = 0; sign < 256; sign++) {
            if (SIGNS.indexOf(sign) >= 0) continue;
            MenuPlanner x = equalOnes(2);
            String bad = String.valueOf((char) sign);
            faulty(x, bad + "(0 1)", 1, 0);
            faulty(x, "(" + bad + "0 1)", 1, 1);
            faulty(x, "(0" + bad + " 1)", 1, 2);
            faulty(x, "(0 " + bad + "1)", 1, 3);
            faulty(x, "(0 1" + bad + ")", 1, 4);
            faulty(x, "(0 1)" + bad, 1, 5);
            faulty(x, "(0 1) " + bad, 1, 6);
        }
    }

    static void fault1AMinusIsNoPartOfANumber() {
        MenuPlanner x = equalOnes(2);
        faulty(x, "(0 -1)", 1, 3);
        faulty(x, "(0 +1)", 1, 3);
        faulty(x, "(-0 1)", 1, 1);
    }

    static void fault1ANumberBeforeTheTree() {
        MenuPlanner x = equalOnes(2);
        faulty(x, "0", 1, 0);
        faulty(x, "0(0 1)", 1, 0);
        faulty(x, "  1 (0 1)", 1, 2);
        faulty(x, "99(0 1)", 1, 0);
    }

    static void fault1ABracketThatClosesNothing() {
        MenuPlanner x = equalOnes(2);
        faulty(x, ")", 1, 0);
        faulty(x, "  )(0 1)", 1, 2);
        faulty(x, "(0 1))", 1, 5);
        faulty(x, "(0 1)  )", 1, 7);
    }

    static void fault1AListOfNoItem() {
        MenuPlanner x = equalOnes(2);
        faulty(x, "()", 1, 1);
        faulty(x, "(   )", 1, 4);
        faulty(x, "(()0 1)", 1, 2);
        faulty(x, "(0 1 ())", 1, 6);
        faulty(x, "(0 (  ) 1)", 1, 6);
        faulty(new MenuPlanner(), "()", 1, 1);
    }

    static void fault1WhatStandsBehindTheTree() {
        MenuPlanner x = equalOnes(2);
        faulty(x, "(0 1)0", 1, 5);
        faulty(x, "(0 1) 7", 1, 6);
        faulty(x, "(0 1)(", 1, 5);
        faulty(x, "(0 1)(0 1)", 1, 5);
        faulty(x, "(0 1)    (0 1)", 1, 9);
        faulty(x, "(0)(1)", 1, 3);
        faulty(x, "(0) 1", 1, 4);
    }

    static void fault1AtTheLengthIfTheTextEndsTooEarly() {
        String text = "(0 ((1 2) 3) 4)";
        for (int n = 0; n < text.length(); n++) {
            MenuPlanner x = equalOnes(5);
            feedText(x, text);
            due("tell of " + n + " bytes", x.tell(n), -9);
            due("fault of " + n + " bytes", x.fault(), n);
        }
        told(text, equalOnes(5));
    }

    static void fault1AtTheLengthOfNothing() {
        faulty(equalOnes(2), "", 1, 0);
        faulty(new MenuPlanner(), "", 1, 0);
        MenuPlanner x = equalOnes(2);
        feedText(x, "(0 1)");
        due("none of the bytes", x.tell(0), -9);
        due("fault()", x.fault(), 0);
    }

    static void fault1AtTheLengthOfBlanks() {
        faulty(equalOnes(2), " ", 1, 1);
        faulty(equalOnes(2), " ".repeat(400), 1, 400);
        faulty(equalOnes(2), "(0 1   ", 1, 7);
    }

    static void fault2ANumberThatIsNoCommand() {
        for (int n : new int[] {1, 2, 9, 10, 11, 39, 40}) {
            MenuPlanner x = equalOnes(n);
            faulty(x, "(" + n + ")", 2, 1);
            faulty(x, "(" + (n + 1) + ")", 2, 1);
            due("the last COMMAND is one", tellText(x, "(" + (n - 1) + ")"), n == 1 ? 0 : -4);
        }
    }

    static void fault2WithoutCommands() {
        faulty(new MenuPlanner(), "(0)", 2, 1);
        faulty(new MenuPlanner(), "( 00 )", 2, 2);
        faulty(new MenuPlanner(), "((0 1))", 2, 2);
    }

    static void fault2AtItsFirstByte() {
        MenuPlanner x = equalOnes(2);
        faulty(x, "(0    12345)", 2, 6);
        faulty(x, "(0(0077 1))", 2, 3);
        faulty(x, "(0 2", 2, 3);
    }

    static void fault3ACommandASecondTime() {
        MenuPlanner x = equalOnes(3);
        faulty(x, "(0 0)", 3, 3);
        faulty(x, "(2 1 2)", 3, 5);
        faulty(x, "(0 (1 0))", 3, 6);
        faulty(x, "((0 1) 1)", 3, 7);
        faulty(x, "((0 1) (2 1))", 3, 10);
        faulty(x, "(1 001)", 3, 3);
        faulty(x, "(0001    1)", 3, 9);
    }

    static void fault3EachCommandOf40() {
        for (int c = 0; c < 40; c++) {
            MenuPlanner x = equalOnes(40);
            String number = Integer.toString(c);
            faulty(x, "(" + number + " " + number + ")", 3, 2 + number.length());
        }
    }

    static void fault3IsOfThisTextAlone() {
        MenuPlanner x = equalOnes(2);
        faulty(x, "(0 1", 1, 4);
        told("(0 1)", x);
        told("(1 0)", x);
    }

    static void fault4ACommandMoreThanBreadth() {
        MenuPlanner x = equalOnes(6);
        faulty(x, "(0 1 2 3 4)", 4, 9);
        faulty(x, "((0 1 2 3    4) 5)", 4, 13);
        faulty(x, "((0 1) 2 3 4 5)", 4, 13);
        faulty(x, "(0 1 2 (3 4) 5)", 4, 13);
    }

    static void fault4AMenuMoreThanBreadth() {
        MenuPlanner x = equalOnes(6);
        faulty(x, "(0 1 2 3 (4 5))", 4, 9);
        faulty(x, "(0 1 2 3(", 4, 8);
        faulty(x, "((0 1 2 3 (4 5)))", 4, 10);
        faulty(x, "(0 1 2 (3 4) (", 4, 13);
    }

    static void fault4EachListHasItsOwnItems() {
        MenuPlanner x = equalOnes(12);
        told("(0 (1 2 (3 4 5 6) 7) 8 (9 10 11))", x);
        MenuPlanner y = equalOnes(16);
        told("((0 1 2 3)(4 5 6 7)(8 9 10 11)(12 13 14 15))", y);
        faulty(y, "((0 1 2 3)(4 5 6 7)(8 9 10 11)(12 13 14)15)", 4, 40);
    }

    static void fault4A41stBracketThatIsOpen() {
        MenuPlanner x = equalOnes(40);
        faulty(x, "(".repeat(41), 4, 40);
        faulty(x, "(".repeat(200), 4, 40);
        faulty(x, "( ".repeat(41), 4, 80);
        faulty(x, " (0 (1 " + "(".repeat(39), 4, 45);
    }

    static void fault4The40thBracketMayStandOpen() {
        MenuPlanner x = equalOnes(40);
        faulty(x, "(".repeat(40), 1, 40);
        faulty(x, "(".repeat(40) + ")", 1, 40);
        faulty(x, "(".repeat(40) + "0)", 5, 41);
        String text = "(" + chainOf40() + ")";
        told(text, x);
        due("MENUS", x.told(1), 39);
        due("printed", printed(x), text);
    }

    static void fault4ClosedBracketsAreNotOpenAtOneTime() {
        MenuPlanner x = equalOnes(40);
        x.set(2, 2);
        faulty(x, "((0 1)" + "(".repeat(39), 1, 45);
        faulty(x, "((0 1)" + "(".repeat(40), 4, 45);
        MenuPlanner y = equalOnes(40);
        String wide = "(" + balanced(0, 40) + "(".repeat(39);
        faulty(y, wide, 1, wide.length());
        faulty(y, wide + "(", 4, wide.length());
        faulty(y, wide + "0", 3, wide.length());
        told("(" + balanced(0, 40) + ")", y);
    }

    static void fault5TheBracketOfAMenuOfOneCommand() {
        MenuPlanner x = equalOnes(3);
        faulty(x, "(0 (1) 2)", 5, 5);
        faulty(x, "((0))", 5, 3);
        faulty(x, "(0 1 (  2   ))", 5, 12);
        faulty(x, "(0 (1 (2)))", 5, 8);
    }

    static void fault5TheBracketOfAMenuOfOneMenu() {
        MenuPlanner x = equalOnes(3);
        faulty(x, "(((0 1 2)))", 5, 9);
        faulty(x, "(0 ((1 2)))", 5, 9);
    }

    static void fault5NotOfTheTreesOwnList() {
        told("(0)", with(1));
        told("((0 1))", with(1, 1));
        faulty(with(1, 1), "(0)", 6, 3);
    }

    static void fault6ACommandLacks() {
        MenuPlanner x = equalOnes(3);
        faulty(x, "(1 2)", 6, 5);
        faulty(x, "(0 2)", 6, 5);
        faulty(x, "(0 1)", 6, 5);
        faulty(x, "((0 1))", 6, 7);
        faulty(x, "(2)", 6, 3);
    }

    static void fault6EachOf40() {
        for (int lacks = 0; lacks < 40; lacks++) {
            MenuPlanner x = equalOnes(40);
            int left = lacks;
            String text = chain(IntStream.range(0, 40).filter(c -> c != left).toArray());
            faulty(x, text, 6, text.length());
        }
    }

    static void fault6BehindAllAtTheLength() {
        MenuPlanner x = equalOnes(3);
        faulty(x, "(0 1)      ", 6, 11);
        faulty(x, "   (0 1)", 6, 8);
        feedText(x, "(0 1) (0 1 2)");
        due("the first bytes alone", x.tell(6), -4);
        due("at their length", x.fault(), 6);
        String full = "(0 1)" + " ".repeat(395);
        faulty(x, full, 6, 400);
    }

    static void theFirstFromTheLeft() {
        MenuPlanner x = equalOnes(3);
        x.set(2, 2);
        faulty(x, "(0 x 7 0", 1, 3);
        faulty(x, "(7 x 0 0", 2, 1);
        faulty(x, "(0 0 7 x", 3, 3);
        faulty(x, "(0 1 2 7 x", 4, 5);
        faulty(x, "(0 (1) 7 x", 5, 5);
        faulty(x, "(0 (7) x", 2, 4);
        faulty(x, "(0 (0) x", 3, 4);
        faulty(x, "(0 1)x", 1, 5);
        faulty(x, "(0 7x", 2, 3);
        faulty(x, "(0 0x", 3, 3);
        faulty(x, "(0 1 2", 4, 5);
        faulty(x, "(0 1 2x", 4, 5);
        faulty(x, "((0)", 5, 3);
    }

    static void ofOnePlaceTheLeast1() {
        MenuPlanner x = equalOnes(2);
        x.set(2, 2);
        faulty(x, "(0 1 x", 1, 5);
        faulty(x, "(0 ())", 1, 4);
        faulty(x, "(0)(", 1, 3);
        faulty(x, "(0)0", 1, 3);
        faulty(x, "(0)9", 1, 3);
        faulty(x, "(0", 1, 2);
        faulty(x, "(0 1", 1, 4);
    }

    static void ofOnePlaceTheLeast2() {
        MenuPlanner x = equalOnes(3);
        x.set(2, 2);
        faulty(x, "(0 1 3)", 2, 5);
        faulty(x, "(0 (1 2 99))", 2, 8);
    }

    static void ofOnePlaceTheLeast3() {
        MenuPlanner x = equalOnes(3);
        x.set(2, 2);
        faulty(x, "(0 1 0)", 3, 5);
        faulty(x, "(0 (1 2 0))", 3, 8);
    }

    static void aTextWithoutFaultAfterOneWith() {
        MenuPlanner x = equalOnes(3);
        faulty(x, "(0 (1 (2", 1, 8);
        faulty(x, "(0 1 2 3)", 2, 7);
        told("(0 (1 2))", x);
        due("printed", printed(x), "(0 (1 2))");
    }

    public static void main(String[] args) throws ReflectiveOperationException {
        runAll(TextBoundsTest.class);
    }
}
