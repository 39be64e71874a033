/** Promises 5 to 9: loads, breaks, mends, cambers, undo. */
public final class DoneTest {
    public static void main(String[] args) {
        loads();
        loadsBreaksOneBehindAnother();
        theWorstBreaksFirst();
        breaks();
        mends();
        cambers();
        undo();
        undoKnowsSix();
        undoOfATextTold();
        Due.end();
    }

    private static void loads() {
        StackedLeaves x = Due.told(Due.FIVE);
        Due.is("loads(-1)", x.loads(-1), Due.BAD);
        Due.is("loads(1000)", x.loads(1000), Due.BAD);
        Due.is("BAD is not done", x.count(7), 1);
        Due.is("loads(0)", x.loads(0), 0);
        Due.is("loads(78)", x.loads(78), 0);
        Due.is("loads that break nothing are done", x.count(7), 3);
        Due.is("whole", x.count(1), 5);
        Due.is("loads(79)", x.loads(79), 2);
        Due.is("whole", x.count(1), 3);
        Due.is("loads(999)", x.loads(999), 3);
        Due.is("none is whole", x.count(1), 0);
        Due.is("loads(999) of none", x.loads(999), 0);
        Due.is("loads of none are done", x.count(7), 6);
        StackedLeaves one = new StackedLeaves();
        Due.is("just its STRENGTH", one.loads(99), 0);
        Due.is("beyond its STRENGTH", one.loads(100), 1);
    }

    private static void loadsBreaksOneBehindAnother() {
        // by 24 each bears 12: TOO MUCH for leaf 1 alone; then leaf 0 bears 24, and breaks, too
        StackedLeaves x = Due.told("l5 1 5 15;l5 1 5 10;");
        Due.is("loads(20)", x.loads(20), 0);
        Due.is("loads(24)", x.loads(24), 2);
        // by 40 each bears 20: TOO MUCH for leaf 1; then leaf 0 bears 40, and stays
        StackedLeaves y = Due.told("l5 1 5 45;l5 1 5 10;");
        Due.is("loads(40)", y.loads(40), 1);
        Due.is("leaf 0 is whole", y.leaf(0, 4), 1);
        Due.is("leaf 1 is not", y.leaf(1, 4), 0);
        // by 8 leaves 0, 1 bear 10 / 3; then leaf 1 bears 5; then leaf 2 bears 8, its REACH stays 2
        StackedLeaves z = Due.told("l5 1 5 3;l5 1 5 3;l5 1 3 9;");
        Due.is("loads(8)", z.loads(8), 2);
        Due.is("leaf 2 is whole", z.leaf(2, 4), 1);
        Due.is("bend(8, 0)", z.bend(8, 0), 10);
    }

    /** What breaks first is seen by least() alone: a break never makes less of what another one bears. */
    private static void theWorstBreaksFirst() {
        // by 55 d is 55 / 6: leaf 0 is 1 / 6 beyond, leaf 1 is 5 / 6 beyond
        StackedLeaves x = Due.told("l5 1 5 9;l5 5 5 45;");
        Due.is("least(0)", x.least(0), 55);
        Due.is("least(1), the worst", x.least(1), 1);
        Due.is("least(2)", x.least(2), 2);
        // by 23 d is 28 / 3: leaves 0, 1 are both 1 / 3 beyond
        StackedLeaves y = Due.told("l5 1 5 9;l5 1 5 9;l5 1 0 99;");
        Due.is("least(0)", y.least(0), 23);
        Due.is("least(1), of equal ones the least", y.least(1), 0);
        Due.is("least(2)", y.least(2), 2);
    }

    private static void breaks() {
        StackedLeaves x = Due.told(Due.FIVE);
        Due.is("breaks(-1)", x.breaks(-1), Due.BAD);
        Due.is("breaks(5)", x.breaks(5), Due.BAD);
        Due.is("breaks(most)", x.breaks(Integer.MAX_VALUE), Due.BAD);
        Due.is("breaks(1)", x.breaks(1), 4);
        Due.is("breaks(1) again", x.breaks(1), Due.STATE);
        Due.is("refused is not done", x.count(7), 2);
        Due.is("leaf(1, 4)", x.leaf(1, 4), 0);
        Due.is("leaf(0, 4)", x.leaf(0, 4), 1);
        Due.is("breaks(4)", x.breaks(4), 3);
        Due.is("REACH counts BROKEN leaves, too", x.leaf(3, 6), 10);
    }

    private static void mends() {
        StackedLeaves x = Due.told(Due.FIVE);
        Due.is("mends(-1)", x.mends(-1), Due.BAD);
        Due.is("mends(5)", x.mends(5), Due.BAD);
        Due.is("mends(least)", x.mends(Integer.MIN_VALUE), Due.BAD);
        Due.is("mends(4), whole", x.mends(4), Due.STATE);
        Due.is("refused is not done", x.count(7), 1);
        x.loads(999);
        Due.is("mends(3)", x.mends(3), 1);
        Due.is("mends(0)", x.mends(0), 2);
        Due.is("mends(0) again", x.mends(0), Due.STATE);
        Due.is("leaf(3, 4)", x.leaf(3, 4), 1);
        Due.is("leaf(1, 4)", x.leaf(1, 4), 0);
        Due.is("done", x.count(7), 4);
    }

    private static void cambers() {
        StackedLeaves x = Due.told(Due.FIVE);
        Due.is("cambers(-1, 3)", x.cambers(-1, 3), Due.BAD);
        Due.is("cambers(5, 3)", x.cambers(5, 3), Due.BAD);
        Due.is("cambers(0, -1)", x.cambers(0, -1), Due.BAD);
        Due.is("cambers(0, 31)", x.cambers(0, 31), Due.BAD);
        Due.is("cambers(0, 20), so already", x.cambers(0, 20), Due.STATE);
        Due.is("refused is not done", x.count(7), 1);
        Due.is("cambers(0, 30)", x.cambers(0, 30), 20);
        Due.is("cambers(0, 0)", x.cambers(0, 0), 30);
        Due.is("cambers(1, 0)", x.cambers(1, 0), 17);
        Due.is("leaf(1, 2)", x.leaf(1, 2), 0);
        Due.is("REACH of the last", x.count(4), 7);
        x.breaks(2);
        Due.is("of a BROKEN one", x.cambers(2, 9), 17);
        Due.is("it stays BROKEN", x.leaf(2, 4), 0);
        Due.is("REACH of the last", x.count(4), 0);
        Due.is("done", x.count(7), 6);
    }

    private static void undo() {
        StackedLeaves x = Due.told(Due.FIVE);
        String[] states = new String[5];
        states[0] = Due.state(x);
        x.loads(79);
        states[1] = Due.state(x);
        x.breaks(4);
        states[2] = Due.state(x);
        x.mends(2);
        states[3] = Due.state(x);
        x.cambers(3, 30);
        x.sees(1, 2);
        x.keep(0);
        Due.type(x, "l1 ");
        for (int i = 3; i >= 0; i--) {
            Due.is("undo()", x.undo(), i + 1);
            Due.same("undo()", Due.state(x), states[i]);
        }
        Due.is("SEEN stays", x.count(5), 1);
        Due.is("THE TEXT stays", x.count(6), 3);
        Due.is("undo() of tells()", x.undo(), 0);
        Due.same("undo() of tells()", Due.state(x), "1 1 0 99 1 ; ");
        Due.is("undo() of nothing", x.undo(), Due.STATE);
        Due.same("undo() of nothing", Due.state(x), "1 1 0 99 1 ; ");
        Due.is("the IMAGE stays", x.back(0), 5);
        Due.is("its camber", x.leaf(3, 2), 30);
    }

    private static void undoKnowsSix() {
        StackedLeaves x = new StackedLeaves();
        for (int c = 1; c <= 9; c++) {
            x.cambers(0, c);
            Due.is("may be undone", x.count(7), Math.min(c, 6));
        }
        for (int c = 8; c >= 5; c--) {
            Due.is("undo()", x.undo(), c - 3);
            Due.is("CAMBER", x.leaf(0, 2), c);
        }
        x.cambers(0, 20);
        x.cambers(0, 21);
        for (int c = 4; c > 0; c--) {
            Due.is("undo()", x.undo(), c - 1);
        }
        Due.is("CAMBER", x.leaf(0, 2), 3);
        Due.is("older ones are lost", x.undo(), Due.STATE);
    }

    private static void undoOfATextTold() {
        StackedLeaves x = Due.told(Due.FIVE);
        x.breaks(0);
        Due.type(x, "l1 1 1 1;");
        x.tells();
        x.sees(4, 4);
        x.keep(1);
        Due.is("undo()", x.undo(), 2);
        Due.is("LEAVES", x.count(0), 5);
        Due.is("leaf 0 is BROKEN", x.leaf(0, 4), 0);
        Due.is("SEEN behind tells() stays", x.count(5), 1);
        Due.is("THE TEXT does not come again", x.count(6), 0);
        Due.is("the IMAGE behind tells() stays", x.back(1), 1);
    }
}
