/** Promises 17 to 23: sees, forget, which, ask, keep, back, count. */
public final class WhichTest {
    public static void main(String[] args) {
        sees();
        forget();
        which();
        whichLooksAtLeavesAsTheyAre();
        whichWithoutABend();
        ask();
        keepAndBack();
        backForgetsWhatWasDone();
        count();
        Due.end();
    }

    private static void sees() {
        StackedLeaves x = Due.told(Due.FIVE);
        Due.is("sees(-1, 0)", x.sees(-1, 0), Due.BAD);
        Due.is("sees(1000, 0)", x.sees(1000, 0), Due.BAD);
        Due.is("sees(0, -1)", x.sees(0, -1), Due.BAD);
        Due.is("sees(0, -8)", x.sees(0, -8), Due.BAD);
        Due.is("sees(0, -10)", x.sees(0, -10), Due.BAD);
        Due.is("sees(0, 10000)", x.sees(0, 10000), Due.BAD);
        Due.is("nothing is SEEN", x.count(5), 0);
        Due.is("sees(0, 0)", x.sees(0, 0), 1);
        Due.is("sees(999, 9999)", x.sees(999, 9999), 2);
        Due.is("sees(5, NONE)", x.sees(5, Due.NONE), 3);
        for (int n = 4; n <= 6; n++) {
            Due.is("sees(0, 0)", x.sees(0, 0), n);
        }
        Due.is("a seventh", x.sees(0, 0), Due.FULL);
        Due.is("BAD is ahead of FULL", x.sees(1000, 0), Due.BAD);
        Due.is("SEEN", x.count(5), 6);
        Due.is("it is not done", x.count(7), 1);
    }

    private static void forget() {
        StackedLeaves x = Due.told(Due.FIVE);
        x.sees(13, 9);
        x.sees(14, 9);
        Due.is("which(0)", x.which(0), 0);
        Due.is("forget()", x.forget(), 2);
        Due.is("forget() again", x.forget(), 0);
        Due.is("which(0)", x.which(0), 6);
        Due.is("sees behind it", x.sees(13, 3), 1);
        Due.is("which(0)", x.which(0), 5);
    }

    private static void which() {
        StackedLeaves x = Due.told(Due.FIVE);
        Due.is("which(-1)", x.which(-1), Due.NO);
        Due.is("which(2)", x.which(2), Due.NO);
        Due.is("nothing is SEEN: which(0)", x.which(0), 6);
        Due.is("nothing is SEEN: which(1)", x.which(1), -1);
        x.sees(13, 3);
        Due.is("which(0)", x.which(0), 5);
        Due.is("which(1)", x.which(1), -1);
        // with leaf 0 broken 1 and 2 bear it: 3 + 12 / 6
        x.forget();
        x.sees(12, 5);
        Due.is("leaf 0: which(0)", x.which(0), 1);
        Due.is("leaf 0: which(1)", x.which(1), 0);
        x.sees(12, 4);
        Due.is("no leaf: which(0)", x.which(0), 0);
        Due.is("no leaf: which(1)", x.which(1), Due.NOT);
        x.forget();
        // by 999: 48 with all; leaf 4 broken: (999 + 68) / 15 = 71
        x.sees(999, 71);
        Due.is("leaf 4: which(1)", x.which(1), 4);
    }

    private static void whichLooksAtLeavesAsTheyAre() {
        StackedLeaves x = Due.told(Due.FIVE);
        x.breaks(0);
        Due.is("one of four, or none", x.which(0), 5);
        x.sees(12, 5);
        Due.is("none is: which(0)", x.which(0), 3);
        Due.is("none is: which(1)", x.which(1), -1);
        x.mends(0);
        Due.is("leaf 0 is: which(0)", x.which(0), 1);
        Due.is("leaf 0 is: which(1)", x.which(1), 0);
    }

    private static void whichWithoutABend() {
        StackedLeaves x = new StackedLeaves();
        x.sees(7, Due.NONE);
        Due.is("leaf 0: which(0)", x.which(0), 1);
        Due.is("leaf 0: which(1)", x.which(1), 0);
        x.sees(0, 0);
        Due.is("by 0 there is a BEND", x.which(0), 1);
        x.breaks(0);
        Due.is("BROKEN: which(0)", x.which(0), 1);
        Due.is("BROKEN: which(1)", x.which(1), -1);
        x.sees(0, Due.NONE);
        Due.is("never so", x.which(1), Due.NOT);
    }

    private static void ask() {
        StackedLeaves x = Due.told(Due.FIVE);
        x.sees(13, 3);
        Due.is("ask()", x.ask(), 190);
        x.forget();
        x.sees(12, 5);
        Due.is("ask() with one", x.ask(), Due.NONE);
        x.sees(12, 4);
        Due.is("ask() with none", x.ask(), Due.NONE);
        StackedLeaves one = new StackedLeaves();
        Due.is("a BEND or none: the least load", one.ask(), 10);
        one.breaks(0);
        Due.is("none is whole", one.ask(), Due.NONE);
        StackedLeaves far = Due.told("l1 1 30 1;l1 1 0 1;l1 1 30 1;");
        // 1 and 2 broken are alike by all loads; by 10 .. 30 all but leaf 0's break are alike; by 40 -1 is 33, they 35
        Due.is("far: ask()", far.ask(), 40);
        StackedLeaves equal = Due.told("l1 9 0 1;l1 9 0 1;");
        Due.is("equal: ask()", equal.ask(), 10);
        // by 290 both all leaves and those without leaf 2 bend by 24, by 300 by 24 and 25
        Due.is("the last load: ask()", Due.told("l9 5 8 99;l9 7 29 99;l9 2 5 99;").ask(), 300);
        // eight of the nine always bend alike; the ninth, none broken, bends otherwise by 70: 70 / 72 is 0, 70 / 63 is 1
        StackedLeaves eight = Due.told("l9 9 30 99;".repeat(8));
        Due.is("eight: which(0)", eight.which(0), 9);
        Due.is("eight: ask()", eight.ask(), 70);
    }

    private static void keepAndBack() {
        StackedLeaves x = Due.told(Due.FIVE);
        Due.is("keep(-1)", x.keep(-1), Due.BAD);
        Due.is("keep(2)", x.keep(2), Due.BAD);
        Due.is("back(-1)", x.back(-1), Due.BAD);
        Due.is("back(2)", x.back(2), Due.BAD);
        Due.is("back(0), not kept", x.back(0), Due.STATE);
        x.breaks(1);
        String first = Due.state(x);
        Due.is("keep(0)", x.keep(0), 5);
        Due.is("back(1), not kept", x.back(1), Due.STATE);
        Due.is("refused: done stays", x.count(7), 2);
        x.cambers(2, 3);
        String second = Due.state(x);
        Due.is("keep(1)", x.keep(1), 5);
        x.loads(999);
        Due.is("back(0)", x.back(0), 5);
        Due.same("back(0)", Due.state(x), first);
        Due.is("back(1)", x.back(1), 5);
        Due.same("back(1)", Due.state(x), second);
        Due.is("back(0) again", x.back(0), 5);
        Due.same("back(0) again", Due.state(x), first);
        x.mends(1);
        String third = Due.state(x);
        Due.is("keep(0) anew", x.keep(0), 5);
        x.breaks(0);
        x.back(0);
        Due.same("keep(0) anew", Due.state(x), third);
    }

    private static void backForgetsWhatWasDone() {
        StackedLeaves x = Due.told(Due.FIVE);
        x.sees(3, 3);
        Due.type(x, "l1");
        x.keep(0);
        Due.is("keep is not done", x.count(7), 1);
        x.breaks(0);
        x.sees(4, 4);
        x.back(0);
        Due.is("may be undone", x.count(7), 0);
        Due.is("undo()", x.undo(), Due.STATE);
        Due.is("SEEN stays", x.count(5), 2);
        Due.is("THE TEXT stays", x.count(6), 2);
        x.breaks(2);
        Due.is("undo() behind it", x.undo(), 0);
        Due.is("leaf 2 is whole", x.leaf(2, 4), 1);
        x.breaks(3);
        x.clear();
        Due.type(x, "l1 1 1 1;");
        x.tells();
        x.keep(1);
        x.undo();
        Due.is("LEAVES", x.count(0), 5);
        Due.is("back(1) to one leaf", x.back(1), 1);
        Due.is("LEAVES", x.count(0), 1);
    }

    private static void count() {
        StackedLeaves x = Due.told(Due.FIVE);
        x.breaks(2);
        x.sees(1, 1);
        x.sees(1, 1);
        Due.type(x, "l 1");
        int[] due = {5, 4, 21, 29, 10, 2, 3, 2};
        for (int what = 0; what < due.length; what++) {
            Due.is("count(" + what + ")", x.count(what), due[what]);
        }
        Due.is("count(-1)", x.count(-1), Due.BAD);
        Due.is("count(8)", x.count(8), Due.BAD);
        Due.is("count(most)", x.count(Integer.MAX_VALUE), Due.BAD);
    }
}
