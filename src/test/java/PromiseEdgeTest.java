/** The promises 1 to 23, one test for the edges of each: the last that is taken, the first that is refused, empty and full. */
public final class PromiseEdgeTest {
    private static final String AT_FIRST = "1 1 0 99 1 ; ";

    public static void main(String[] args) {
        aNewObject();
        type();
        clear();
        tells();
        loads();
        breaks();
        mends();
        cambers();
        undo();
        leaf();
        bend();
        bears();
        rate();
        least();
        knee();
        chosen();
        sees();
        forget();
        which();
        ask();
        keep();
        back();
        count();
        the512thCall();
        Due.end();
    }

    private static StackedLeaves allBroken(String text) {
        StackedLeaves x = Due.told(text);
        for (int i = 0; i < x.count(0); i++) {
            x.breaks(i);
        }
        return x;
    }

    private static void counts(StackedLeaves x, int... due) {
        for (int what = 0; what < due.length; what++) {
            Due.is("count(" + what + ")", x.count(what), due[what]);
        }
    }

    private static void aNewObject() {
        Due.words("1 A new object: As at first.");
        StackedLeaves x = new StackedLeaves();
        Due.same("new", Due.state(x), AT_FIRST);
        counts(x, 1, 1, 1, 1, 0, 0, 0, 0);
        Due.is("nothing to undo", x.undo(), Due.STATE);
        Due.is("no IMAGE 0", x.back(0), Due.STATE);
        Due.is("no IMAGE 1", x.back(1), Due.STATE);
        Due.is("nothing SEEN", x.forget(), 0);
        Due.is("no letters", x.clear(), 0);
        Due.is("an empty text", x.tells(), -10);
        // what another object has been told is its own
        StackedLeaves other = Due.told(Due.FIVE);
        other.sees(1, 1);
        other.keep(0);
        other.type('l');
        Due.same("beside another", Due.state(x), AT_FIRST);
        counts(x, 1, 1, 1, 1, 0, 0, 0, 0);
        Due.is("beside another", x.back(0), Due.STATE);
        Due.same("behind another", Due.state(new StackedLeaves()), AT_FIRST);
        counts(new StackedLeaves(), 1, 1, 1, 1, 0, 0, 0, 0);
    }

    private static void type() {
        Due.words("2 type: A letter (0 .. 255) comes to THE TEXT: how many it has. BAD; FULL: 100.");
        StackedLeaves x = new StackedLeaves();
        Due.range("type(letter)", x::type, 0, 255, Due.BAD);
        Due.is("two were taken", x.count(6), 2);
        for (int n = 3; n <= 100; n++) {
            Due.is("letter " + n, x.type(n), n);
        }
        Due.is("the 101st", x.type(0), Due.FULL);
        Due.is("the 101st again", x.type(255), Due.FULL);
        Due.range("type(letter) of 100", letter -> x.type(letter), 0, 255, Due.BAD);
        Due.is("letters", x.count(6), 100);
        x.clear();
        Due.is("there is room", x.type(0), 1);
    }

    private static void clear() {
        Due.words("3 clear: THE TEXT is empty: how many letters it had.");
        StackedLeaves x = new StackedLeaves();
        Due.is("of none", x.clear(), 0);
        x.type(0);
        Due.is("of one", x.clear(), 1);
        Due.is("of none again", x.clear(), 0);
        for (int times = 0; times < 2; times++) {
            Due.type(x, "l".repeat(101));
            Due.is("of 100", x.clear(), 100);
            Due.is("letters", x.count(6), 0);
        }
        Due.is("what was there is not read", x.tells(), -10);
        Due.type(x, "l1 1 1 1;");
        x.tells();
        Due.is("behind tells()", x.clear(), 0);
    }

    private static void tells() {
        Due.words("4 tells: THE TEXT tells all anew, and is empty then: how many LEAVES. -10 less FAULT: nothing changes (THE TEXT stays, too).");
        StackedLeaves x = new StackedLeaves();
        Due.is("FAULT 0, the least", x.tells(), -10);
        Due.type(x, Due.EIGHT + " ".repeat(12));
        Due.is("eight, of 100 letters", x.tells(), 8);
        Due.is("THE TEXT is empty", x.count(6), 0);
        Due.type(x, " ".repeat(100));
        Due.is("FAULT 100, the most", x.tells(), -110);
        Due.is("THE TEXT stays", x.count(6), 100);
        Due.is("again", x.tells(), -110);
        Due.is("nothing changes", x.count(7), 1);
        Due.is("LEAVES", x.count(0), 8);
        x.clear();
        Due.type(x, "l1 1 1 1");
        Due.is("; is missing", x.tells(), -18);
        x.type(';');
        Due.is("THE TEXT stayed, and goes on", x.tells(), 1);
        Due.same("all anew", Due.state(x), "1 1 1 1 1 ; ");
        // as many as are told, more or fewer than there were
        for (int n = 1; n <= 8; n++) {
            StackedLeaves y = Due.told("l1 1 1 1;".repeat(n));
            Due.type(y, "l1 1 1 1;".repeat(9 - n));
            Due.is("LEAVES", y.tells(), 9 - n);
            Due.is("no more", y.leaf(9 - n, 0), Due.BAD);
        }
    }

    private static void loads() {
        Due.words("5 loads: LOADED by P: how many are BROKEN by it. BAD (P 0 .. 999).");
        StackedLeaves x = Due.told("l1 9 0 1;".repeat(8));
        for (int p : Due.outside(0, 999)) {
            Due.is("loads(" + p + ")", x.loads(p), Due.BAD);
        }
        Due.is("none of them broke one", x.count(1), 8);
        Due.is("none of them is DONE", x.count(7), 1);
        Due.is("loads(0)", x.loads(0), 0);
        Due.is("loads(8), just their STRENGTH", x.loads(8), 0);
        Due.is("loads(9)", x.loads(9), 8);
        Due.is("of none", x.loads(999), 0);
        Due.is("all of them are DONE", x.count(7), 5);
        Due.is("loads(999) of eight", Due.told(Due.EIGHT).loads(999), 8);
        // those BROKEN ahead of it are not by it
        StackedLeaves y = Due.told(Due.EIGHT);
        y.breaks(0);
        y.breaks(7);
        Due.is("loads(594)", y.loads(594), 0);
        Due.is("loads(595)", y.loads(595), 6);
    }

    private static void breaks() {
        Due.words("6 breaks: BROKEN, a LEAF: how many are whole yet. BAD; STATE: it is BROKEN.");
        StackedLeaves x = Due.told(Due.EIGHT);
        for (int leaf : Due.outside(0, 7)) {
            Due.is("breaks(" + leaf + ")", x.breaks(leaf), Due.BAD);
        }
        for (int i = 7; i >= 0; i--) {
            Due.is("breaks(" + i + ")", x.breaks(i), i);
            Due.is("breaks(" + i + ") again", x.breaks(i), Due.STATE);
            Due.is("whole", x.count(1), i);
        }
        Due.is("breaks(8), none is whole", x.breaks(8), Due.BAD);
        StackedLeaves one = new StackedLeaves();
        Due.is("the one behind the last", one.breaks(1), Due.BAD);
        Due.is("the only one", one.breaks(0), 0);
        StackedLeaves byLoad = Due.told(Due.THREE);
        byLoad.loads(11);
        Due.is("BROKEN by a LOAD", byLoad.breaks(0), Due.STATE);
    }

    private static void mends() {
        Due.words("7 mends: A LEAF is whole: how many are. BAD; STATE: it is whole.");
        StackedLeaves x = allBroken(Due.EIGHT);
        for (int leaf : Due.outside(0, 7)) {
            Due.is("mends(" + leaf + ")", x.mends(leaf), Due.BAD);
        }
        for (int i = 7; i >= 0; i--) {
            Due.is("mends(" + i + ")", x.mends(i), 8 - i);
            Due.is("mends(" + i + ") again", x.mends(i), Due.STATE);
            Due.is("whole", x.count(1), 8 - i);
        }
        Due.is("mends(8), all are whole", x.mends(8), Due.BAD);
        StackedLeaves one = new StackedLeaves();
        Due.is("as at first", one.mends(0), Due.STATE);
        one.loads(100);
        Due.is("BROKEN by a LOAD", one.mends(0), 1);
    }

    private static void cambers() {
        Due.words("8 cambers: CAMBER of a LEAF becomes c: what it was. BAD; STATE: it is that.");
        StackedLeaves x = Due.told(Due.EIGHT);
        for (int leaf : Due.outside(0, 7)) {
            Due.is("cambers(" + leaf + ", 5)", x.cambers(leaf, 5), Due.BAD);
        }
        for (int c : Due.outside(0, 30)) {
            Due.is("cambers(0, " + c + ")", x.cambers(0, c), Due.BAD);
            Due.is("cambers(7, " + c + ")", x.cambers(7, c), Due.BAD);
        }
        Due.is("none of them is DONE", x.count(7), 1);
        for (int i : new int[] {0, 7}) {
            Due.is("30 is that", x.cambers(i, 30), Due.STATE);
            Due.is("to the least", x.cambers(i, 0), 30);
            Due.is("0 is that", x.cambers(i, 0), Due.STATE);
            Due.is("to the most", x.cambers(i, 30), 0);
            Due.is("by one", x.cambers(i, 29), 30);
        }
        Due.is("of 0", x.leaf(0, 2), 29);
        Due.is("of 7", x.leaf(7, 2), 29);
        Due.is("the others stay", x.leaf(6, 2), 30);
    }

    private static void undo() {
        Due.words("9 undo: UNDONE: how many more may be. STATE: none.");
        StackedLeaves x = new StackedLeaves();
        Due.is("none", x.undo(), Due.STATE);
        x.breaks(0);
        Due.is("one", x.undo(), 0);
        Due.is("it is whole", x.leaf(0, 4), 1);
        Due.is("none again", x.undo(), Due.STATE);
        Due.is("undo() is not DONE", x.count(7), 0);
        for (int i = 0; i < 4; i++) {
            x.breaks(0);
            x.mends(0);
        }
        for (int more = 5; more >= 0; more--) {
            Due.is("of six", x.undo(), more);
            Due.is("whole", x.leaf(0, 4), more % 2 == 0 ? 1 : 0);
        }
        Due.is("no seventh", x.undo(), Due.STATE);
    }

    private static void leaf() {
        Due.words("10 leaf: Of a LEAF: 0 LENGTH, .. 6 its REACH, in the PACK of all. BAD.");
        StackedLeaves x = Due.told(Due.STEEP);
        Due.range("leaf(leaf, 4)", leaf -> x.leaf(leaf, 4), 0, 7, Due.BAD);
        Due.range("leaf(leaf, 6)", leaf -> x.leaf(leaf, 6), 0, 7, Due.BAD);
        Due.range("leaf(0, what)", what -> x.leaf(0, what), 0, 6, Due.BAD);
        Due.range("leaf(7, what)", what -> x.leaf(7, what), 0, 6, Due.BAD);
        int[][] due = {{9, 1, 30, 99, 1, 0, 0}, {9, 1, 0, 99, 1, 30, 120}};
        for (int what = 0; what < 7; what++) {
            Due.is("leaf(0, " + what + ")", x.leaf(0, what), due[0][what]);
            Due.is("leaf(7, " + what + ")", x.leaf(7, what), due[1][what]);
        }
        x.breaks(7);
        Due.is("BROKEN", x.leaf(7, 4), 0);
        Due.is("its REACH stays", x.leaf(7, 6), 120);
    }

    private static void bend() {
        Due.words("11 bend: BEND by P: the upper number (what = 0), the lower one (1), in lowest terms; cut (2); NONE. BAD.");
        StackedLeaves x = Due.told(Due.EIGHT);
        Due.range("bend(1, what)", what -> x.bend(1, what), 0, 2, Due.BAD);
        Due.range("bend(p, 2)", p -> x.bend(p, 2), 0, 999, Due.BAD);
        int[][] due = {{0, 0, 1, 0}, {1, 1, 72, 0}, {36, 1, 2, 0}, {71, 71, 72, 0}, {72, 1, 1, 1}, {999, 111, 8, 13}};
        for (int[] d : due) {
            for (int what = 0; what < 3; what++) {
                Due.is("bend(" + d[0] + ", " + what + ")", x.bend(d[0], what), d[what + 1]);
            }
        }
        StackedLeaves none = allBroken(Due.EIGHT);
        for (int what = 0; what < 3; what++) {
            Due.is("by 1 of none", none.bend(1, what), Due.NONE);
            Due.is("by 999 of none", none.bend(999, what), Due.NONE);
            Due.is("by 0 of none", none.bend(0, what), what == 1 ? 1 : 0);
        }
        Due.range("bend(0, what) of none", what -> none.bend(0, what), 0, 2, Due.BAD);
    }

    private static void bears() {
        Due.words("12 bears: What a LEAF BEARS by P: the upper number (what = 0), the lower one (1), in lowest terms; whether that is TOO MUCH");
        StackedLeaves x = Due.told(Due.EIGHT);
        Due.range("bears(leaf, 1, 0)", leaf -> x.bears(leaf, 1, 0), 0, 7, Due.BAD);
        Due.range("bears(0, p, 0)", p -> x.bears(0, p, 0), 0, 999, Due.BAD);
        Due.range("bears(0, 1, what)", what -> x.bears(0, 1, what), 0, 2, Due.BAD);
        int[][] due = {{0, 0, 1, 0}, {1, 1, 8, 0}, {8, 1, 1, 0}, {12, 3, 2, 0}, {792, 99, 1, 0}, {793, 793, 8, 1}, {999, 999, 8, 1}};
        for (int[] d : due) {
            for (int what = 0; what < 3; what++) {
                Due.is("bears(0, " + d[0] + ", " + what + ")", x.bears(0, d[0], what), d[what + 1]);
                Due.is("bears(7, " + d[0] + ", " + what + ")", x.bears(7, d[0], what), d[what + 1]);
            }
        }
        Due.words("12 bears: NONE: there is no BEND. BAD.");
        StackedLeaves none = allBroken(Due.EIGHT);
        for (int what = 0; what < 3; what++) {
            Due.is("by 1 of none", none.bears(7, 1, what), Due.NONE);
            Due.is("by 999 of none", none.bears(0, 999, what), Due.NONE);
            Due.is("by 0 of none", none.bears(0, 0, what), what == 1 ? 1 : 0);
            Due.is("no such LEAF", none.bears(8, 1, what), Due.BAD);
        }
    }

    private static void rate() {
        Due.words("13 rate: RATE by P. BAD; NONE: there is no BEND.");
        StackedLeaves x = Due.told("l5 1 1 9;l5 9 0 9;");
        Due.range("rate(p)", x::rate, 0, 999, Due.BAD);
        Due.is("by 0", x.rate(0), 0);
        Due.is("by 1, d is just 1", x.rate(1), 1);
        Due.is("by 2", x.rate(2), 10);
        Due.is("by 999", x.rate(999), 10);
        StackedLeaves none = allBroken(Due.EIGHT);
        Due.is("by 0 of none", none.rate(0), 0);
        Due.is("by 1 of none", none.rate(1), Due.NONE);
        Due.is("by 999 of none", none.rate(999), Due.NONE);
        Due.is("by 1000 of none", none.rate(1000), Due.BAD);
    }

    private static void least() {
        Due.words("14 least: LEAST LOAD: it (what = 0), which LEAF (1), how many (2); NONE. BAD.");
        StackedLeaves x = Due.told("l5 1 0 99;l5 1 0 1;");
        Due.range("least(what)", x::least, 0, 2, Due.BAD);
        Due.is("it", x.least(0), 3);
        Due.is("which LEAF", x.least(1), 1);
        Due.is("how many", x.least(2), 1);
        StackedLeaves none = allBroken(Due.EIGHT);
        for (int what = 0; what < 3; what++) {
            Due.is("of none", none.least(what), Due.NONE);
        }
        Due.range("least(what) of none", none::least, 0, 2, Due.BAD);
    }

    private static void knee() {
        Due.words("15 knee: KNEES: how many (k = -1), the k-th (0 on); NONE: not so many. BAD (k below -1).");
        StackedLeaves x = Due.told(Due.STEEP);
        int[] due = {4, 30, 120, 270, 480, Due.NONE, Due.NONE};
        for (int k = -1; k < 6; k++) {
            Due.is("knee(" + k + ")", x.knee(k), due[k + 1]);
        }
        Due.range("knee(k)", x::knee, -1, Integer.MAX_VALUE, Due.BAD);
        Due.is("knee(most)", x.knee(Integer.MAX_VALUE), Due.NONE);
        StackedLeaves none = new StackedLeaves();
        Due.is("of none: how many", none.knee(-1), 0);
        Due.is("of none: the first", none.knee(0), Due.NONE);
        Due.is("of none: -2", none.knee(-2), Due.BAD);
        Due.is("all BROKEN: how many", allBroken(Due.STEEP).knee(-1), 0);
        Due.is("all BROKEN: the first", allBroken(Due.STEEP).knee(0), Due.NONE);
    }

    private static void chosen() {
        Due.words("16 chosen: CHOSEN: how many LEAVES (what = 0), which (1: bits); NONE. BAD.");
        StackedLeaves x = Due.told(Due.EIGHT);
        Due.range("chosen(p, 99, 0)", p -> x.chosen(p, 99, 0), 0, 999, Due.BAD);
        Due.range("chosen(9, d, 0)", d -> x.chosen(9, d, 0), 0, 99, Due.BAD);
        Due.range("chosen(9, 9, what)", what -> x.chosen(9, 9, what), 0, 1, Due.BAD);
        Due.is("one", x.chosen(0, 0, 0), 1);
        Due.is("one as bits", x.chosen(0, 0, 1), 1);
        Due.is("all", x.chosen(792, 11, 0), 8);
        Due.is("all as bits", x.chosen(792, 11, 1), 255);
        Due.is("NONE", x.chosen(793, 99, 0), Due.NONE);
        Due.is("NONE as bits", x.chosen(793, 99, 1), Due.NONE);
        Due.is("of none", allBroken(Due.EIGHT).chosen(0, 99, 0), Due.NONE);
        Due.is("of none as bits", allBroken(Due.EIGHT).chosen(0, 99, 1), Due.NONE);
        Due.is("of none, BAD", allBroken(Due.EIGHT).chosen(0, 99, 2), Due.BAD);
    }

    private static void sees() {
        Due.words("17 sees: SEEN: by P (0 .. 999) BEND, cut, is n (0 .. 9999, NONE): how much there is. BAD; FULL: 6.");
        StackedLeaves x = new StackedLeaves();
        for (int p : Due.outside(0, 999)) {
            Due.is("sees(" + p + ", 0)", x.sees(p, 0), Due.BAD);
            Due.is("sees(" + p + ", NONE)", x.sees(p, Due.NONE), Due.BAD);
        }
        for (int n : Due.outside(0, 9999)) {
            Due.is("sees(0, " + n + ")", x.sees(0, n), Due.BAD);
        }
        for (int n : new int[] {-1, -2, -3, -8, -10, Due.NO, Due.NOT}) {
            Due.is("sees(0, " + n + ")", x.sees(0, n), Due.BAD);
        }
        Due.is("nothing is SEEN", x.count(5), 0);
        Due.is("the least of both", x.sees(0, 0), 1);
        Due.is("the most of both", x.sees(999, 9999), 2);
        Due.is("NONE by the least", x.sees(0, Due.NONE), 3);
        Due.is("NONE by the most", x.sees(999, Due.NONE), 4);
        Due.is("the same again", x.sees(0, 0), 5);
        Due.is("the sixth", x.sees(0, 0), 6);
        Due.is("the seventh", x.sees(0, 0), Due.FULL);
        Due.is("the seventh again", x.sees(999, Due.NONE), Due.FULL);
        Due.is("SEEN", x.count(5), 6);
        x.forget();
        Due.is("there is room", x.sees(0, 0), 1);
    }

    private static void forget() {
        Due.words("18 forget: Nothing is SEEN: how much was.");
        StackedLeaves x = new StackedLeaves();
        Due.is("of none", x.forget(), 0);
        for (int much = 1; much <= 7; much++) {
            for (int i = 0; i < much; i++) {
                x.sees(0, 1);
            }
            Due.is("it counts", x.which(0), 0);
            Due.is("of " + much, x.forget(), Math.min(6, much));
            Due.is("nothing is SEEN", x.count(5), 0);
            Due.is("nothing counts", x.which(0), 2);
            Due.is("of none again", x.forget(), 0);
        }
    }

    private static void which() {
        Due.words("19 which: WHICH: how many (what = 0), the first (1: -1, a LEAF; NOT). NO: BAD.");
        StackedLeaves x = Due.told(Due.EIGHT);
        for (int what : Due.outside(0, 1)) {
            Due.is("which(" + what + ")", x.which(what), Due.NO);
        }
        Due.is("all can be: how many", x.which(0), 9);
        Due.is("all can be: the first", x.which(1), -1);
        // 63 / 63 without any one of them, 63 / 72 with all
        x.sees(63, 1);
        Due.is("one is: how many", x.which(0), 8);
        Due.is("one is: the first", x.which(1), 0);
        for (int i = 0; i < 7; i++) {
            x.breaks(i);
        }
        x.forget();
        x.sees(1, Due.NONE);
        Due.is("the last one: how many", x.which(0), 1);
        Due.is("the last one: the first", x.which(1), 7);
        x.sees(1, 0);
        Due.is("none can be: how many", x.which(0), 0);
        Due.is("none can be: the first", x.which(1), Due.NOT);
        Due.is("none can be: which(2)", x.which(2), Due.NO);
    }

    private static void ask() {
        Due.words("20 ask: ASK; NONE.");
        StackedLeaves x = new StackedLeaves();
        Due.is("two can be", x.ask(), 10);
        x.sees(0, 0);
        Due.is("two can be yet", x.ask(), 10);
        x.sees(10, 10);
        Due.is("one can be", x.ask(), Due.NONE);
        x.sees(10, 11);
        Due.is("none can be", x.ask(), Due.NONE);
        Due.is("none is whole", allBroken(Due.EIGHT).ask(), Due.NONE);
    }

    private static void keep() {
        Due.words("21 keep: An IMAGE is kept: LEAVES. BAD.");
        StackedLeaves x = new StackedLeaves();
        for (int image : Due.outside(0, 1)) {
            Due.is("keep(" + image + ")", x.keep(image), Due.BAD);
        }
        Due.is("none was kept", x.back(0), Due.STATE);
        Due.is("none was kept", x.back(1), Due.STATE);
        Due.is("of one LEAF", x.keep(1), 1);
        Due.is("the other was not kept", x.back(0), Due.STATE);
        Due.is("the one was", x.back(1), 1);
        StackedLeaves y = allBroken(Due.EIGHT);
        Due.is("of eight, BROKEN", y.keep(0), 8);
        y.mends(0);
        Due.is("over one that was kept", y.keep(0), 8);
        y.breaks(0);
        y.back(0);
        Due.is("the later one", y.count(1), 1);
    }

    private static void back() {
        Due.words("22 back: All of that becomes as an IMAGE has it: LEAVES. BAD; STATE: none was kept.");
        StackedLeaves x = Due.told(Due.EIGHT);
        x.keep(0);
        x.keep(1);
        for (int image : Due.outside(0, 1)) {
            Due.is("back(" + image + ")", x.back(image), Due.BAD);
        }
        Due.is("BAD leaves what may be UNDONE", x.count(7), 1);
        Due.is("back(0)", x.back(0), 8);
        Due.is("back(1)", x.back(1), 8);
        // eight by an IMAGE that was kept ahead of an undo() to one
        StackedLeaves y = Due.told(Due.EIGHT);
        y.keep(1);
        y.undo();
        Due.is("one LEAF", y.count(0), 1);
        y.keep(0);
        Due.is("back to eight", y.back(1), 8);
        Due.is("LEAVES", y.count(0), 8);
        Due.is("back to one", y.back(0), 1);
        Due.same("back to one", Due.state(y), AT_FIRST);
        Due.is("no second one", y.leaf(1, 0), Due.BAD);
    }

    private static void count() {
        Due.words("23 count: 0 LEAVES, .. 7 how many may be UNDONE. BAD.");
        StackedLeaves x = new StackedLeaves();
        Due.range("count(what)", x::count, 0, 7, Due.BAD);
        counts(x, 1, 1, 1, 1, 0, 0, 0, 0);
        StackedLeaves most = Due.told("l9 9 30 99;l9 9 0 99;".repeat(4));
        counts(most, 8, 8, 72, 72, 120, 0, 0, 1);
        for (int i = 0; i < 8; i++) {
            most.breaks(i);
            most.sees(0, 0);
        }
        Due.type(most, "l".repeat(101));
        counts(most, 8, 0, 0, 72, 120, 6, 100, 6);
        StackedLeaves fewest = Due.told("l1 1 0 1;");
        counts(fewest, 1, 1, 1, 1, 0, 0, 0, 1);
        fewest.undo();
        counts(fewest, 1, 1, 1, 1, 0, 0, 0, 0);
    }

    private static void the512thCall() {
        Due.words("An object is used for at most 512 calls after it has been made");
        StackedLeaves x = new StackedLeaves();
        for (int call = 1; call < 511; call += 2) {
            x.cambers(0, 1 + call % 29);
            Due.is("call " + (call + 1), x.loads(99), 0);
        }
        Due.is("call 511", x.loads(100), 1);
        Due.is("call 512", x.undo(), 5);
        StackedLeaves typed = new StackedLeaves();
        for (int call = 1; call < 512; call++) {
            typed.type('l');
        }
        Due.is("call 512", typed.clear(), 100);
    }
}
