/** 'Terms', part 3 (LEAST LOAD to IMAGES), what is refused, and the constants: a test for each of its words that name an edge. */
public final class TermsLookTest {
    /** REACH 0 0 30: leaf 2 comes to bear by 540 alone. */
    private static final String FAR = "l9 9 30 99;l9 9 30 99;l9 9 0 99;";

    public static void main(String[] args) {
        leastWholeLoad();
        leastFirstAndHowMany();
        leastNone();
        kneesAboveZero();
        kneesAbove999();
        justReachOfSomeWholeLeaf();
        eachLoadOnce();
        kneesRising();
        chosenD();
        chosenHasTheUppermostWholeOne();
        chosenTooMuchForNone();
        chosenBendIsDAtMost();
        chosenOfFewest();
        chosenLeastAsBits();
        chosenNone();
        sixAreSeen();
        cutIsN();
        asTheyAreWhenItIsAsked();
        butForOneWholeOne();
        allThatWasSeenWouldBeSo();
        aBendThatThereIsNot();
        theFirst();
        not();
        askTenToThreeHundred();
        askOfSeveralTheLeast();
        askNone();
        imagesKeepAllButTheText();
        imagesKeepNothingElse();
        nothingUndoneBehindBack();
        aTextToldAndTheyAreGone();
        badAheadOfState();
        badAheadOfFull();
        badAheadOfNone();
        constants();
        Due.end();
    }

    private static void leastIs(StackedLeaves x, int load, int leaf, int many) {
        Due.is("least(0)", x.least(0), load);
        Due.is("least(1)", x.least(1), leaf);
        Due.is("least(2)", x.least(2), many);
    }

    private static void leastWholeLoad() {
        Due.words("LEAST LOAD: the least whole P, 1 to 999, by which there is TOO MUCH for a LEAF: it");
        // no STRENGTH is below 1, so that 2 is the least there can be; 8 of 99 each make the most
        leastIs(Due.told("l5 1 0 1;"), 2, 0, 1);
        leastIs(new StackedLeaves(), 100, 0, 1);
        leastIs(Due.told(Due.EIGHT), 793, 0, 8);
        // d is 1 by 9 and a half: by 9 there is not TOO MUCH, by 10 there is
        StackedLeaves x = Due.told("l5 9 1 9;l5 1 0 99;");
        leastIs(x, 10, 0, 1);
        Due.is("by one less", x.bears(0, 9, 2), 0);
        // a BROKEN one never bears TOO MUCH, however little STRENGTH it has
        x.breaks(0);
        leastIs(x, 100, 1, 1);
    }

    private static void leastFirstAndHowMany() {
        Due.words("which LEAF LOADED would break first by it; how many LOADED would break by it");
        leastIs(Due.told("l5 1 0 99;l5 1 0 99;l5 1 0 1;"), 4, 2, 1);
        leastIs(Due.told("l5 1 0 2;l5 1 0 2;l5 1 0 1;"), 4, 2, 1);
        leastIs(Due.told("l5 1 0 2;l5 1 0 1;l5 1 0 1;"), 4, 1, 3);
        StackedLeaves x = Due.told(Due.EIGHT);
        for (int i = 0; i < 7; i++) {
            x.breaks(i);
        }
        leastIs(x, 100, 7, 1);
    }

    private static void leastNone() {
        Due.words("LEAST LOAD: .. NONE");
        StackedLeaves x = new StackedLeaves();
        x.breaks(0);
        leastIs(x, Due.NONE, Due.NONE, Due.NONE);
        x.mends(0);
        leastIs(x, 100, 0, 1);
    }

    private static void knees(StackedLeaves x, int... due) {
        Due.is("knee(-1)", x.knee(-1), due.length);
        for (int k = 0; k < due.length; k++) {
            Due.is("knee(" + k + ")", x.knee(k), due[k]);
        }
        for (int k = due.length; k <= 9; k++) {
            Due.is("knee(" + k + ")", x.knee(k), Due.NONE);
        }
        Due.is("knee(most)", x.knee(Integer.MAX_VALUE), Due.NONE);
    }

    private static void kneesAboveZero() {
        Due.words("KNEES: LOADS above 0 ..");
        knees(new StackedLeaves());
        knees(Due.told(Due.EIGHT));
        knees(Due.told("l5 1 1 9;l5 1 0 9;"), 1);
        knees(Due.told("l5 1 0 9;l5 1 30 9;"));
        // the uppermost whole LEAF is come to by 0, whatever its REACH
        StackedLeaves x = Due.told(Due.STEEP);
        for (int i = 0; i < 7; i++) {
            x.breaks(i);
        }
        knees(x);
        x.mends(6);
        knees(x, 30);
        x.breaks(7);
        x.breaks(6);
        knees(x);
    }

    private static void kneesAbove999() {
        Due.words("(here above 999, too)");
        // REACH 0 30 30 57: 9 * 57 + 18 * 27
        knees(Due.told("l9 9 30 99;l9 9 0 99;l9 9 30 99;l9 9 3 99;"), 270, 999);
        // REACH 0 0 30 30 59: 14 * 59 + 6 * 29
        knees(Due.told("l9 7 30 9;l9 7 30 9;l9 4 0 9;l9 2 30 9;l9 1 1 9;"), 420, 1000);
        // the most there can be
        knees(Due.told("l9 9 30 99;l9 9 0 99;".repeat(4)), 270, 1080, 2430, 4320);
        // REACH 0 0 30 30 60 60 90 90
        knees(Due.told("l9 9 30 99;l9 9 30 99;l9 9 0 99;l9 9 30 99;l9 9 0 99;l9 9 30 99;l9 9 0 99;l9 9 30 99;"), 540, 1620, 3240);
    }

    private static void justReachOfSomeWholeLeaf() {
        Due.words("by which BEND is just REACH of some whole LEAF");
        StackedLeaves x = Due.told(Due.STEEP);
        int[] reaches = {30, 60, 90, 120};
        for (int k = 0; k < 4; k++) {
            Due.is("BEND", x.bend(x.knee(k), 0), reaches[k]);
            Due.is("BEND is whole", x.bend(x.knee(k), 1), 1);
        }
        // no LEAF of REACH 60 or 120 is whole any more
        x.breaks(3);
        x.breaks(4);
        x.breaks(7);
        knees(x, 30, 210);
        Due.is("BEND", x.bend(210, 2), 90);
    }

    private static void eachLoadOnce() {
        Due.words("(each LOAD once)");
        knees(Due.told("l5 2 9 9;l5 2 4 9;l5 2 4 9;l5 2 4 9;"), 10);
        StackedLeaves x = Due.told("l5 2 9 9;l5 2 4 9;l5 2 4 9;l5 2 3 9;");
        knees(x, 10, 16);
        x.breaks(1);
        knees(x, 10, 14);
        x.breaks(2);
        knees(x, 12);
    }

    private static void kneesRising() {
        Due.words("the k-th (0 on, rising)");
        // NIP 1 at each of eight: 1, 1 + 2, 1 + 2 + 3, ..
        StackedLeaves x = Due.told("l5 1 7 9;l5 1 6 9;l5 1 5 9;l5 1 4 9;l5 1 3 9;l5 1 2 9;l5 1 1 9;l5 1 0 9;");
        knees(x, 1, 3, 6, 10, 15, 21, 28);
        Due.range("knee(k)", x::knee, -1, Integer.MAX_VALUE, Due.BAD);
    }

    private static void chosenIs(StackedLeaves x, int p, int d, int bits) {
        String call = "chosen(" + p + ", " + d + ", ";
        Due.is(call + "0)", x.chosen(p, d, 0), bits < 0 ? bits : Integer.bitCount(bits));
        Due.is(call + "1)", x.chosen(p, d, 1), bits);
    }

    private static void chosenD() {
        Due.words("CHOSEN by P and D (0 to 99)");
        StackedLeaves x = Due.told(Due.FIVE);
        Due.range("chosen(9, d, 0)", d -> x.chosen(9, d, 0), 0, 99, Due.BAD);
        chosenIs(new StackedLeaves(), 99, 99, 1);
        chosenIs(new StackedLeaves(), 99, 98, Due.NONE);
        chosenIs(new StackedLeaves(), 0, 0, 1);
        chosenIs(new StackedLeaves(), 1, 0, Due.NONE);
    }

    private static void chosenHasTheUppermostWholeOne() {
        Due.words("of all PACKS of whole LEAVES that have the uppermost whole one");
        // leaf 1 alone would do by 90
        StackedLeaves x = Due.told("l5 1 0 20;l5 9 0 99;l5 1 0 99;");
        chosenIs(x, 90, 10, 3);
        x.breaks(0);
        chosenIs(x, 90, 10, 2);
        x.breaks(1);
        chosenIs(x, 90, 90, 4);
        x.mends(0);
        chosenIs(x, 40, 99, 5);
        StackedLeaves y = Due.told(Due.EIGHT);
        for (int i = 0; i < 7; i++) {
            chosenIs(y, 0, 0, 1 << i);
            y.breaks(i);
        }
        chosenIs(y, 99, 11, 128);
    }

    private static void chosenTooMuchForNone() {
        Due.words("that in which by P there is TOO MUCH for none");
        chosenIs(Due.told(Due.EIGHT), 99, 99, 1);
        chosenIs(Due.told(Due.EIGHT), 100, 99, 3);
        chosenIs(Due.told(Due.EIGHT), 792, 99, 255);
        chosenIs(Due.told(Due.EIGHT), 793, 99, Due.NONE);
        // 0 and 1 are TOO MUCH for leaf 1, that bears 5 of 4
        chosenIs(Due.told("l5 1 0 5;l5 1 0 4;l5 1 0 5;"), 10, 99, 5);
    }

    private static void chosenBendIsDAtMost() {
        Due.words("and BEND is D at most");
        StackedLeaves x = Due.told("l5 1 0 99;l5 1 0 99;l5 1 0 99;");
        // 6 / 1, 6 / 2, 6 / 3; 7 / 2 is more than 3
        chosenIs(x, 6, 6, 1);
        chosenIs(x, 6, 5, 3);
        chosenIs(x, 6, 3, 3);
        chosenIs(x, 6, 2, 7);
        chosenIs(x, 6, 1, Due.NONE);
        chosenIs(x, 7, 3, 7);
        chosenIs(x, 7, 4, 3);
        chosenIs(Due.told(Due.EIGHT), 72, 1, 255);
        chosenIs(Due.told(Due.EIGHT), 73, 1, Due.NONE);
    }

    private static void chosenOfFewest() {
        Due.words("of fewest LEAVES");
        // 0, 1, 2 (bits 7) do as well as 0, 3 (bits 9)
        chosenIs(Due.told("l5 1 0 99;l5 1 0 99;l5 1 0 99;l5 9 0 99;"), 20, 7, 9);
        chosenIs(Due.told("l5 1 0 99;l5 1 0 99;l5 1 0 99;l5 9 0 99;"), 20, 6, 9);
        chosenIs(Due.told("l5 1 0 99;l5 1 0 99;l5 1 0 99;l5 9 0 99;"), 20, 20, 1);
    }

    private static void chosenLeastAsBits() {
        Due.words("of several the least as bits");
        chosenIs(Due.told(Due.EIGHT), 198, 99, 3);
        chosenIs(Due.told(Due.EIGHT), 693, 99, 127);
        // of 3, 5, 9 only 5 and 9 do
        chosenIs(Due.told("l5 5 0 99;l5 1 0 99;l5 5 0 99;l5 5 0 99;"), 10, 1, 5);
    }

    private static void chosenNone() {
        Due.words("CHOSEN: .. NONE");
        StackedLeaves x = Due.told(Due.THREE);
        chosenIs(x, 999, 99, Due.NONE);
        for (int i = 0; i < 3; i++) {
            x.breaks(i);
        }
        chosenIs(x, 0, 99, Due.NONE);
        chosenIs(x, 1, 99, Due.NONE);
    }

    private static void sixAreSeen() {
        Due.words("SEEN (6 at most)");
        StackedLeaves x = Due.told(Due.FIVE);
        for (int n = 1; n <= 6; n++) {
            Due.is("sees() " + n, x.sees(n % 4, 0), n);
        }
        Due.is("a seventh", x.sees(12, 5), Due.FULL);
        Due.is("the seventh does not count", x.which(1), -1);
        Due.is("forget()", x.forget(), 6);
        Due.is("there is room", x.sees(12, 5), 1);
        Due.is("the older ones are gone", x.which(1), 0);
        // the sixth counts as well as the first
        StackedLeaves y = Due.told(Due.FIVE);
        for (int n = 1; n <= 5; n++) {
            y.sees(0, 0);
        }
        y.sees(12, 5);
        Due.is("the sixth counts", y.which(1), 0);
        y.forget();
        y.sees(12, 5);
        for (int n = 2; n <= 6; n++) {
            y.sees(0, 0);
        }
        Due.is("the first counts", y.which(1), 0);
    }

    private static void cutIsN() {
        Due.words("by a LOAD P, BEND, cut, is n");
        // 71 / 72 is 0, 72 / 72 and 73 / 72 and 143 / 72 are 1
        int[][] due = {{0, 0}, {71, 0}, {72, 1}, {73, 1}, {143, 1}, {144, 2}, {999, 13}};
        for (int[] d : due) {
            StackedLeaves x = Due.told(Due.EIGHT);
            x.sees(d[0], d[1]);
            Due.is("by " + d[0], x.which(1), -1);
            x.sees(d[0], d[1] + 1);
            Due.is("by " + d[0] + ", both", x.which(0), 0);
        }
        // the greatest BEND there can be
        StackedLeaves far = Due.told(Due.STEEP);
        for (int i = 0; i < 7; i++) {
            far.breaks(i);
        }
        far.sees(999, 1119);
        Due.is("1119", far.which(0), 1);
    }

    private static void asTheyAreWhenItIsAsked() {
        Due.words("by LEAVES as they are when it is asked");
        StackedLeaves x = Due.told(Due.FIVE);
        x.sees(12, 5);
        Due.is("leaf 0", x.which(1), 0);
        x.breaks(0);
        Due.is("none", x.which(1), -1);
        x.undo();
        Due.is("leaf 0 again", x.which(1), 0);
        x.cambers(0, 17);
        Due.is("of another CAMBER: not so", x.which(0), 0);
        x.undo();
        x.keep(0);
        x.loads(999);
        Due.is("none is whole", x.which(0), 0);
        x.back(0);
        Due.is("behind back()", x.which(1), 0);
        x.undo();
    }

    private static void butForOneWholeOne() {
        Due.words("but for one whole one, which is not known, that is BROKEN, or for none");
        StackedLeaves x = Due.told(Due.EIGHT);
        for (int broken = 0; broken < 8; broken++) {
            Due.is(broken + " BROKEN", x.which(0), 9 - broken);
            x.breaks(broken);
        }
        Due.is("all BROKEN", x.which(0), 1);
        Due.is("all BROKEN", x.which(1), -1);
        StackedLeaves y = Due.told(Due.EIGHT);
        // 63 / 63: one of eight is BROKEN; two are never
        y.sees(63, 1);
        Due.is("one of eight", y.which(0), 8);
        Due.is("the first of them", y.which(1), 0);
        y.forget();
        y.sees(54, 1);
        Due.is("two of eight", y.which(0), 0);
        y.breaks(0);
        Due.is("the first whole one", y.which(1), 1);
        Due.is("one of seven", y.which(0), 7);
    }

    private static void allThatWasSeenWouldBeSo() {
        Due.words("how many of these there are by which all that was SEEN would be so");
        // without any one of eight BEND is 1 from 63 to 125, with all of them from 72 to 143
        StackedLeaves x = Due.told(Due.EIGHT);
        Due.is("nothing was SEEN", x.which(0), 9);
        x.sees(72, 1);
        Due.is("all can be", x.which(0), 9);
        x.sees(125, 1);
        Due.is("all can be yet", x.which(0), 9);
        x.sees(71, 1);
        Due.is("all but none", x.which(0), 8);
        x.sees(126, 1);
        Due.is("what each of them was by is not enough", x.which(0), 0);
    }

    private static void aBendThatThereIsNot() {
        Due.words("(a BEND that there is not is NONE)");
        StackedLeaves x = new StackedLeaves();
        x.sees(1, Due.NONE);
        Due.is("leaf 0 alone", x.which(0), 1);
        Due.is("leaf 0", x.which(1), 0);
        x.forget();
        x.sees(0, Due.NONE);
        Due.is("by 0 there always is one", x.which(0), 0);
        x.forget();
        x.sees(0, 0);
        Due.is("by 0 it is 0", x.which(0), 2);
        x.breaks(0);
        Due.is("by 0 it is 0, BROKEN", x.which(0), 1);
        x.sees(999, Due.NONE);
        Due.is("none is whole", x.which(1), -1);
        x.sees(999, 0);
        Due.is("NONE is not 0", x.which(1), Due.NOT);
    }

    private static void theFirst() {
        Due.words("the first (-1: none is, ahead of all; else the LEAF)");
        StackedLeaves x = Due.told(Due.EIGHT);
        Due.is("-1, ahead of all", x.which(1), -1);
        // a LEAF of another STIFF at each place is the one
        for (int i = 0; i < 8; i++) {
            StackedLeaves y = Due.told("l9 9 0 9;".repeat(i) + "l9 1 0 9;" + "l9 9 0 9;".repeat(7 - i));
            // without it 63 d, with it 64 d, without another one 55 d
            y.sees(63, 1);
            y.sees(62, 0);
            Due.is("leaf " + i, y.which(1), i);
            Due.is("no other", y.which(0), 1);
        }
    }

    private static void not() {
        Due.words("WHICH: .. NOT");
        StackedLeaves x = Due.told(Due.FIVE);
        x.sees(0, 9999);
        Due.is("how many", x.which(0), 0);
        Due.is("the first", x.which(1), Due.NOT);
    }

    private static void askTenToThreeHundred() {
        Due.words("ASK: of LOADS 10, 20, .. 300");
        // 1 would tell BROKEN from whole as well
        Due.is("the least", new StackedLeaves().ask(), 10);
        // by 290 BEND is 24 with leaf 2 and without it, by 300 it is 24 and 25
        Due.is("the most", Due.told("l9 5 8 99;l9 7 29 99;l9 2 5 99;").ask(), 300);
        StackedLeaves x = Due.told(FAR);
        x.sees(180, 10);
        Due.is("none or leaf 2", x.which(0), 2);
        Due.is("by 999 they would be told apart", x.ask(), 10);
    }

    private static void askOfSeveralTheLeast() {
        Due.words("that by which the greatest number of these that have one BEND, cut, is least; of several the least");
        StackedLeaves x = Due.told(FAR);
        // by 10, 20 BEND is 0 for none and 1, 2 for 0 and 1: 10 / 18 and 10 / 9; leaf 2 goes with none
        Due.is("two and two", x.ask(), 10);
        StackedLeaves y = Due.told(Due.EIGHT);
        // eight of nine are alike by all: from 70 on the ninth is not (70 / 63 is 1, 70 / 72 is 0)
        Due.is("eight and one", y.ask(), 70);
        y.sees(70, 1);
        Due.is("eight that are always alike", y.ask(), 10);
        y.sees(70, 0);
        Due.is("none", y.ask(), Due.NONE);
    }

    private static void askNone() {
        Due.words("NONE (one can be at most)");
        StackedLeaves x = new StackedLeaves();
        Due.is("two can be", x.ask(), 10);
        x.sees(1, 1);
        Due.is("one can be", x.which(0), 1);
        Due.is("one can be", x.ask(), Due.NONE);
        x.sees(1, 2);
        Due.is("none can be", x.ask(), Due.NONE);
        x.forget();
        x.breaks(0);
        Due.is("none is whole", x.ask(), Due.NONE);
    }

    private static void imagesKeepAllButTheText() {
        Due.words("IMAGES 0, 1 keep all that 1 tells but THE TEXT");
        for (int image = 0; image < 2; image++) {
            StackedLeaves x = Due.told(Due.EIGHT);
            x.breaks(7);
            x.cambers(6, 0);
            x.cambers(0, 1);
            String kept = Due.state(x);
            Due.is("keep()", x.keep(image), 8);
            Due.type(x, "l9");
            x.loads(999);
            x.cambers(6, 1);
            Due.is("back()", x.back(image), 8);
            Due.same("back()", Due.state(x), kept);
            Due.is("THE TEXT stays", x.count(6), 2);
            x.loads(999);
            Due.is("back() again", x.back(image), 8);
            Due.same("an IMAGE stays as it was kept", Due.state(x), kept);
        }
    }

    private static void imagesKeepNothingElse() {
        Due.words("nothing else");
        StackedLeaves x = Due.told(Due.FIVE);
        x.sees(1, 1);
        x.keep(0);
        x.keep(1);
        x.sees(2, 2);
        x.back(0);
        Due.is("SEEN stays", x.count(5), 2);
        x.forget();
        x.back(0);
        Due.is("SEEN does not come again", x.count(5), 0);
        x.breaks(0);
        x.keep(1);
        x.back(0);
        Due.is("IMAGE 0 has not IMAGE 1 in it", x.back(1), 5);
        Due.is("leaf 0 is BROKEN there", x.leaf(0, 4), 0);
    }

    private static void nothingUndoneBehindBack() {
        Due.words("(nothing can be UNDONE behind back())");
        for (int done = 0; done <= 8; done++) {
            StackedLeaves x = new StackedLeaves();
            x.keep(1);
            for (int c = 1; c <= done; c++) {
                x.cambers(0, c);
            }
            x.back(1);
            Due.is("may be UNDONE", x.count(7), 0);
            Due.is("undo()", x.undo(), Due.STATE);
            for (int c = 11; c <= 18; c++) {
                x.cambers(0, c);
                Due.is("what is done behind it may be", x.count(7), Math.min(6, c - 10));
            }
            for (int i = 5; i >= 0; i--) {
                Due.is("undo()", x.undo(), i);
            }
            Due.is("CAMBER", x.leaf(0, 2), 12);
        }
        StackedLeaves y = new StackedLeaves();
        y.breaks(0);
        Due.is("back() that is refused", y.back(0), Due.STATE);
        y.back(2);
        y.keep(0);
        Due.is("keep()", y.count(7), 1);
    }

    private static void aTextToldAndTheyAreGone() {
        Due.words("(A text told: what was SEEN, IMAGES are gone.)");
        StackedLeaves x = Due.told(Due.FIVE);
        for (int n = 0; n < 6; n++) {
            x.sees(12, 5);
        }
        x.keep(0);
        x.keep(1);
        Due.is("a FAULT", x.tells(), -10);
        Due.is("a FAULT: SEEN stays", x.count(5), 6);
        Due.is("a FAULT: IMAGE 0 stays", x.back(0), 5);
        Due.is("a FAULT: IMAGE 1 stays", x.back(1), 5);
        Due.type(x, Due.FIVE);
        x.tells();
        Due.is("SEEN", x.count(5), 0);
        Due.is("SEEN does not count", x.which(0), 6);
        Due.is("IMAGE 0", x.back(0), Due.STATE);
        Due.is("IMAGE 1", x.back(1), Due.STATE);
        Due.is("undo()", x.undo(), 0);
        Due.is("UNDONE: SEEN", x.count(5), 0);
        Due.is("UNDONE: IMAGE 0", x.back(0), Due.STATE);
        Due.is("UNDONE: IMAGE 1", x.back(1), Due.STATE);
        Due.is("there is room for what is SEEN", x.sees(12, 5), 1);
    }

    private static void badAheadOfState() {
        Due.words("Refused, .. the first of these that is so: BAD .., STATE");
        StackedLeaves x = new StackedLeaves();
        Due.is("cambers(1, 0)", x.cambers(1, 0), Due.BAD);
        Due.is("cambers(0, 0)", x.cambers(0, 0), Due.STATE);
        Due.is("cambers(-1, 0)", x.cambers(-1, 0), Due.BAD);
        Due.is("mends(1)", x.mends(1), Due.BAD);
        Due.is("mends(0)", x.mends(0), Due.STATE);
        Due.is("back(2)", x.back(2), Due.BAD);
        Due.is("back(1)", x.back(1), Due.STATE);
        x.breaks(0);
        Due.is("breaks(1)", x.breaks(1), Due.BAD);
        Due.is("breaks(0)", x.breaks(0), Due.STATE);
    }

    private static void badAheadOfFull() {
        Due.words("Refused, .. the first of these that is so: BAD .., FULL.");
        StackedLeaves x = new StackedLeaves();
        Due.type(x, " ".repeat(100));
        Due.is("type(256)", x.type(256), Due.BAD);
        Due.is("type(-1)", x.type(-1), Due.BAD);
        Due.is("type(255)", x.type(255), Due.FULL);
        for (int i = 0; i < 6; i++) {
            x.sees(0, 0);
        }
        Due.is("sees(1000, 0)", x.sees(1000, 0), Due.BAD);
        Due.is("sees(0, 10000)", x.sees(0, 10000), Due.BAD);
        Due.is("sees(0, -1)", x.sees(0, -1), Due.BAD);
        Due.is("sees(0, 0)", x.sees(0, 0), Due.FULL);
    }

    private static void badAheadOfNone() {
        Due.words("BAD (a number is not as told, or there is no such thing)");
        StackedLeaves x = new StackedLeaves();
        x.breaks(0);
        Due.is("bend(1, 3)", x.bend(1, 3), Due.BAD);
        Due.is("bend(1, -1)", x.bend(1, -1), Due.BAD);
        Due.is("bears(1, 1, 0)", x.bears(1, 1, 0), Due.BAD);
        Due.is("bears(0, 1, 3)", x.bears(0, 1, 3), Due.BAD);
        Due.is("rate(1000)", x.rate(1000), Due.BAD);
        Due.is("least(3)", x.least(3), Due.BAD);
        Due.is("knee(-2)", x.knee(-2), Due.BAD);
        Due.is("chosen(1, 1, 2)", x.chosen(1, 1, 2), Due.BAD);
        Due.is("chosen(1, 100, 0)", x.chosen(1, 100, 0), Due.BAD);
        x.sees(0, 1);
        Due.is("which(2)", x.which(2), Due.NO);
    }

    private static void constants() {
        Due.words("What is BAD (NO), what there is none of (NOT), where a number may be below 0.");
        Due.is("BAD", StackedLeaves.BAD, -1);
        Due.is("STATE", StackedLeaves.STATE, -2);
        Due.is("FULL", StackedLeaves.FULL, -3);
        Due.is("NONE", StackedLeaves.NONE, -9);
        Due.is("NO", StackedLeaves.NO, -1000000);
        Due.is("NOT", StackedLeaves.NOT, -2000000);
        StackedLeaves x = new StackedLeaves();
        Due.is("which(2)", x.which(2), StackedLeaves.NO);
        Due.is("a number below 0", x.which(1), -1);
        x.sees(0, 1);
        Due.is("there is none", x.which(1), StackedLeaves.NOT);
    }
}
