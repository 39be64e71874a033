/** Promises 1 to 4: a new object, type, clear, tells. */
public final class TextTest {
    public static void main(String[] args) {
        aNewObject();
        type();
        clear();
        tells();
        tellsTakesAllAnew();
        faultsOfTokens();
        faultsOfNumbers();
        textsThatEndTooEarly();
        eightLeavesAtMost();
        Due.end();
    }

    private static void aNewObject() {
        StackedLeaves x = new StackedLeaves();
        Due.same("new", Due.state(x), "1 1 0 99 1 ; ");
        int[] counts = {1, 1, 1, 1, 0, 0, 0, 0, Due.BAD};
        for (int what = 0; what < counts.length; what++) {
            Due.is("new: count(" + what + ")", x.count(what), counts[what]);
        }
        Due.is("new: undo()", x.undo(), Due.STATE);
        Due.is("new: back(0)", x.back(0), Due.STATE);
        Due.is("new: back(1)", x.back(1), Due.STATE);
        Due.is("new: forget()", x.forget(), 0);
        Due.is("new: clear()", x.clear(), 0);
        Due.is("new: least(0)", x.least(0), 100);
        Due.is("new: which(0)", x.which(0), 2);
    }

    private static void type() {
        StackedLeaves x = new StackedLeaves();
        Due.is("type(-1)", x.type(-1), Due.BAD);
        Due.is("type(256)", x.type(256), Due.BAD);
        Due.is("type(least)", x.type(Integer.MIN_VALUE), Due.BAD);
        Due.is("type(most)", x.type(Integer.MAX_VALUE), Due.BAD);
        Due.is("type(0)", x.type(0), 1);
        Due.is("type(255)", x.type(255), 2);
        for (int n = 3; n <= 100; n++) {
            Due.is("type(32)", x.type(32), n);
        }
        Due.is("type(32) of 100", x.type(32), Due.FULL);
        Due.is("type(256) of 100", x.type(256), Due.BAD);
        Due.is("letters", x.count(6), 100);
    }

    private static void clear() {
        StackedLeaves x = new StackedLeaves();
        Due.type(x, "l1 1");
        Due.is("clear()", x.clear(), 4);
        Due.is("clear() again", x.clear(), 0);
        Due.is("letters", x.count(6), 0);
        Due.is("type behind clear()", x.type('l'), 1);
        Due.is("clear() is not done", x.undo(), Due.STATE);
    }

    private static void tells() {
        StackedLeaves x = Due.told(Due.FIVE);
        Due.same("tells()", Due.state(x), "9 4 20 40 1 ; 8 3 17 40 1 ; 6 3 17 20 1 ; 4 5 10 60 1 ; 2 9 12 99 1 ; ");
        Due.is("letters", x.count(6), 0);
        Due.is("may be undone", x.count(7), 1);
        Due.is("blanks", Due.tellsOf("   l   3 1   30  99   ;   l3 9 0 1;   "), 2);
        Due.is("the edges above", Due.tellsOf("l9 9 30 99;l9 9 30 99;"), 2);
        Due.is("the edges below", Due.tellsOf("l1 1 0 1;"), 1);
    }

    private static void tellsTakesAllAnew() {
        StackedLeaves x = Due.told(Due.FIVE);
        x.breaks(2);
        x.sees(13, 3);
        x.keep(0);
        x.keep(1);
        Due.type(x, "l3 1 2 3");
        String before = Due.state(x);
        Due.is("tells(), a fault", x.tells(), -10 - 8);
        Due.same("a fault", Due.state(x), before);
        Due.is("a fault: letters", x.count(6), 8);
        Due.is("a fault: SEEN", x.count(5), 1);
        Due.is("a fault: may be undone", x.count(7), 2);
        x.type(';');
        Due.is("tells()", x.tells(), 1);
        Due.same("tells()", Due.state(x), "3 1 2 3 1 ; ");
        Due.is("whole", x.count(1), 1);
        Due.is("SEEN is gone", x.count(5), 0);
        Due.is("IMAGE 0 is gone", x.back(0), Due.STATE);
        Due.is("IMAGE 1 is gone", x.back(1), Due.STATE);
        Due.is("may be undone", x.count(7), 3);
        Due.is("letters", x.count(6), 0);
        Due.is("tells() of nothing", x.tells(), -10);
    }

    private static void faultsOfTokens() {
        Due.is("another letter", Due.tellsOf("L1 1 1 1;"), -10);
        Due.is("another letter behind blanks", Due.tellsOf("  x"), -12);
        Due.is("letter 0", Due.tellsOf("l1 1 1 1;\0"), -19);
        Due.is("letter 255", Due.tellsOf("l1 1 1 1;" + (char) 255), -19);
        Due.is("letter 9 is no blank", Due.tellsOf("l\t1 1 1 1;"), -11);
        Due.is("a minus", Due.tellsOf("l1 -1 1 1;"), -13);
        Due.is("next to the figures below", Due.tellsOf("l/ 1 1 1;"), -11);
        Due.is("next to the figures above", Due.tellsOf("l: 1 1 1;"), -11);
        Due.is("a number for l", Due.tellsOf("1 1 1 1;"), -10);
        Due.is("; for l", Due.tellsOf(";"), -10);
        Due.is("l for a number", Due.tellsOf("ll1 1 1 1;"), -11);
        Due.is("; for a number", Due.tellsOf("l1 1 1;"), -16);
        Due.is("l for ;", Due.tellsOf("l1 1 1 1l"), -18);
        Due.is("a number for ;", Due.tellsOf("l1 1 1 1 1;"), -19);
        Due.is("; behind ;", Due.tellsOf("l1 1 1 1;  ;"), -21);
        Due.is("the first of two", Due.tellsOf("l1 1 1 1 1 x"), -19);
    }

    private static void faultsOfNumbers() {
        Due.is("LENGTH 0", Due.tellsOf("l0 1 1 1;"), -11);
        Due.is("LENGTH 10", Due.tellsOf("l 10 1 1 1;"), -12);
        Due.is("LENGTH beyond that above", Due.tellsOf("l3 1 1 1;l4 1 1 1;"), -20);
        Due.is("LENGTH beyond that just above", Due.tellsOf("l5 1 1 1;l3 1 1 1;l4 1 1 1;"), -29);
        Due.is("STIFF 0", Due.tellsOf("l1 0 1 1;"), -13);
        Due.is("STIFF 10", Due.tellsOf("l1 10 1 1;"), -13);
        Due.is("CAMBER 31", Due.tellsOf("l1 1 31 1;"), -15);
        Due.is("STRENGTH 0", Due.tellsOf("l1 1 1 0;"), -17);
        Due.is("STRENGTH 100", Due.tellsOf("l1 1 1 100;"), -17);
        Due.is("a 0 ahead", Due.tellsOf("l1 1 01 1;"), -15);
        Due.is("00", Due.tellsOf("l1 1 00 1;"), -15);
        Due.is("a number that goes beyond int", Due.tellsOf("l1 1 1 4294967297;"), -17);
        Due.is("a number beyond, at the end", Due.tellsOf("l12"), -11);
        Due.is("two numbers without a blank are one", Due.tellsOf("l11 1 1;"), -11);
    }

    private static void textsThatEndTooEarly() {
        Due.is("an empty text", Due.tellsOf(""), -10);
        Due.is("blanks alone", Due.tellsOf("   "), -13);
        Due.is("l", Due.tellsOf("l"), -11);
        Due.is("l1", Due.tellsOf("l1"), -12);
        Due.is("no ;", Due.tellsOf("l1 1 1 1"), -18);
        Due.is("no ;, blanks", Due.tellsOf("l1 1 1 1  "), -20);
        Due.is("a second one", Due.tellsOf("l1 1 1 1;l"), -20);
        Due.is("100 blanks", Due.tellsOf(" ".repeat(100)), -110);
        Due.is("a figure at the very end", Due.tellsOf("l" + " ".repeat(98) + "1"), -110);
        Due.is("figures alone", Due.tellsOf("l" + "1".repeat(99)), -11);
        StackedLeaves x = new StackedLeaves();
        Due.type(x, "l999");
        x.clear();
        Due.type(x, "l9");
        Due.is("what was cleared is not read", x.tells(), -12);
    }

    private static void eightLeavesAtMost() {
        String one = "l9 9 30 99;";
        Due.is("eight", Due.tellsOf(one.repeat(8)), 8);
        Due.is("a ninth", Due.tellsOf(one.repeat(8) + "l"), -10 - 88);
        Due.is("a ninth behind blanks", Due.tellsOf(one.repeat(8) + "  l9 1 1 1;"), -10 - 90);
        Due.is("another letter behind the eighth", Due.tellsOf(one.repeat(8) + ";l"), -10 - 88);
        Due.is("100 letters", Due.tellsOf(one.repeat(8) + " ".repeat(12)), 8);
    }
}
