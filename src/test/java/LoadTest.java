/** Promises 10 to 16: leaf, bend, bears, rate, least, knee, chosen. */
public final class LoadTest {
    private static final String STEEP = "l9 9 30 99;l9 9 0 99;l9 9 30 99;l9 9 0 99;l9 9 30 99;l9 9 0 99;l9 9 30 99;l9 9 0 99;";

    public static void main(String[] args) {
        leaf();
        bend();
        bears();
        rate();
        least();
        knee();
        chosen();
        nothingIsChanged();
        Due.end();
    }

    private static void leaf() {
        StackedLeaves x = Due.told(Due.FIVE);
        x.breaks(3);
        int[][] due = {
            {9, 4, 20, 40, 1, 0, 0}, {8, 3, 17, 40, 1, 3, 3}, {6, 3, 17, 20, 1, 0, 3}, {4, 5, 10, 60, 0, 7, 10}, {2, 9, 12, 99, 1, 0, 10}};
        for (int i = 0; i < due.length; i++) {
            for (int what = 0; what < 7; what++) {
                Due.is("leaf(" + i + ", " + what + ")", x.leaf(i, what), due[i][what]);
            }
        }
        Due.is("leaf(-1, 0)", x.leaf(-1, 0), Due.BAD);
        Due.is("leaf(5, 0)", x.leaf(5, 0), Due.BAD);
        Due.is("leaf(5, 6)", x.leaf(5, 6), Due.BAD);
        Due.is("leaf(0, -1)", x.leaf(0, -1), Due.BAD);
        Due.is("leaf(0, 7)", x.leaf(0, 7), Due.BAD);
        Due.is("REACH, the most", Due.told(STEEP).leaf(7, 6), 120);
    }

    private static void fraction(StackedLeaves x, int p, int upper, int lower) {
        Due.is("bend(" + p + ", 0)", x.bend(p, 0), upper);
        Due.is("bend(" + p + ", 1)", x.bend(p, 1), lower);
        Due.is("bend(" + p + ", 2)", x.bend(p, 2), upper < 0 ? Due.NONE : upper / lower);
    }

    private static void bend() {
        StackedLeaves x = Due.told(Due.FIVE);
        fraction(x, 0, 0, 1);
        fraction(x, 1, 1, 4);
        fraction(x, 6, 3, 2);
        fraction(x, 12, 3, 1);
        fraction(x, 13, 31, 10);
        fraction(x, 82, 10, 1);
        fraction(x, 999, 1157, 24);
        Due.is("bend(-1, 0)", x.bend(-1, 0), Due.BAD);
        Due.is("bend(1000, 0)", x.bend(1000, 0), Due.BAD);
        Due.is("bend(1, -1)", x.bend(1, -1), Due.BAD);
        Due.is("bend(1, 3)", x.bend(1, 3), Due.BAD);
        x.breaks(0);
        fraction(x, 0, 0, 1);
        fraction(x, 1, 19, 6);
        x.loads(999);
        fraction(x, 0, 0, 1);
        fraction(x, 1, Due.NONE, Due.NONE);
        Due.is("BAD is ahead of NONE", x.bend(1, 3), Due.BAD);
    }

    private static void bears() {
        StackedLeaves x = Due.told(Due.FIVE);
        Due.is("bears(0, 13, 0)", x.bears(0, 13, 0), 62);
        Due.is("bears(0, 13, 1)", x.bears(0, 13, 1), 5);
        Due.is("bears(1, 12, 0), just reached", x.bears(1, 12, 0), 0);
        Due.is("bears(1, 12, 1), just reached", x.bears(1, 12, 1), 1);
        Due.is("bears(1, 13, 1)", x.bears(1, 13, 1), 10);
        Due.is("bears(4, 13, 0)", x.bears(4, 13, 0), 0);
        Due.is("bears(4, 13, 1)", x.bears(4, 13, 1), 1);
        Due.is("bears(2, 78, 2)", x.bears(2, 78, 2), 0);
        Due.is("bears(2, 79, 2)", x.bears(2, 79, 2), 1);
        Due.is("bears(1, 79, 2)", x.bears(1, 79, 2), 0);
        Due.is("bears(-1, 0, 0)", x.bears(-1, 0, 0), Due.BAD);
        Due.is("bears(5, 0, 0)", x.bears(5, 0, 0), Due.BAD);
        Due.is("bears(0, -1, 0)", x.bears(0, -1, 0), Due.BAD);
        Due.is("bears(0, 1000, 0)", x.bears(0, 1000, 0), Due.BAD);
        Due.is("bears(0, 0, -1)", x.bears(0, 0, -1), Due.BAD);
        Due.is("bears(0, 0, 3)", x.bears(0, 0, 3), Due.BAD);
        x.breaks(2);
        Due.is("a BROKEN one bears 0", x.bears(2, 999, 0), 0);
        Due.is("a BROKEN one bears 0 / 1", x.bears(2, 999, 1), 1);
        Due.is("not TOO MUCH for a BROKEN one", x.bears(2, 999, 2), 0);
        StackedLeaves one = new StackedLeaves();
        Due.is("just its STRENGTH", one.bears(0, 99, 2), 0);
        Due.is("beyond its STRENGTH", one.bears(0, 100, 2), 1);
        one.breaks(0);
        for (int what = 0; what < 3; what++) {
            Due.is("there is no BEND", one.bears(0, 1, what), Due.NONE);
            Due.is("by 0 there is", one.bears(0, 0, what), what == 1 ? 1 : 0);
        }
        Due.is("BAD is ahead of NONE", one.bears(1, 1, 0), Due.BAD);
    }

    private static void rate() {
        StackedLeaves x = Due.told(Due.FIVE);
        int[][] due = {{0, 0}, {1, 4}, {12, 4}, {13, 10}, {82, 10}, {83, 24}, {999, 24}, {-1, Due.BAD}, {1000, Due.BAD}};
        for (int[] d : due) {
            Due.is("rate(" + d[0] + ")", x.rate(d[0]), d[1]);
        }
        x.breaks(0);
        Due.is("the uppermost is BROKEN: rate(0)", x.rate(0), 0);
        Due.is("the uppermost is BROKEN: rate(1)", x.rate(1), 6);
        x.loads(999);
        Due.is("none is whole: rate(0)", x.rate(0), 0);
        Due.is("none is whole: rate(1)", x.rate(1), Due.NONE);
        Due.is("none is whole: rate(1000)", x.rate(1000), Due.BAD);
    }

    private static void least() {
        StackedLeaves x = Due.told(Due.FIVE);
        Due.is("least(0)", x.least(0), 79);
        Due.is("least(1)", x.least(1), 2);
        Due.is("least(2)", x.least(2), 2);
        Due.is("least(-1)", x.least(-1), Due.BAD);
        Due.is("least(3)", x.least(3), Due.BAD);
        x.loads(999);
        for (int what = 0; what < 3; what++) {
            Due.is("none is whole", x.least(what), Due.NONE);
        }
        Due.is("BAD is ahead of NONE", x.least(3), Due.BAD);
        StackedLeaves weak = Due.told("l1 9 0 1;l1 9 0 99;");
        Due.is("weak: least(0)", weak.least(0), 3);
        Due.is("weak: least(2)", weak.least(2), 1);
        StackedLeaves eight = Due.told("l9 9 30 99;".repeat(8));
        Due.is("eight: least(0)", eight.least(0), 793);
        Due.is("eight: least(1)", eight.least(1), 0);
        Due.is("eight: least(2)", eight.least(2), 8);
        StackedLeaves one = Due.told("l9 1 0 1;");
        Due.is("one of STRENGTH 1: least(0)", one.least(0), 2);
    }

    private static void knee() {
        StackedLeaves x = Due.told(Due.FIVE);
        int[] due = {2, 12, 82, Due.NONE, Due.NONE};
        for (int k = -1; k < 4; k++) {
            Due.is("knee(" + k + ")", x.knee(k), due[k + 1]);
        }
        Due.is("knee(-2)", x.knee(-2), Due.BAD);
        Due.is("knee(least)", x.knee(Integer.MIN_VALUE), Due.BAD);
        Due.is("knee(most)", x.knee(Integer.MAX_VALUE), Due.NONE);
        x.breaks(0);
        Due.is("load 0 is none: how many", x.knee(-1), 1);
        Due.is("load 0 is none: the first", x.knee(0), 42);
        StackedLeaves steep = Due.told(STEEP);
        // REACH 0 30 30 60 60 90 90 120 of STIFF 9 each
        int[] steepDue = {4, 270, 270 + 810, 1080 + 1350, 2430 + 1890, Due.NONE};
        for (int k = -1; k < 5; k++) {
            Due.is("steep: knee(" + k + ")", steep.knee(k), steepDue[k + 1]);
        }
        StackedLeaves near = Due.told("l1 1 1 99;l1 1 0 99;");
        Due.is("near: knee(-1)", near.knee(-1), 1);
        Due.is("near: knee(0)", near.knee(0), 1);
        Due.is("one leaf", new StackedLeaves().knee(-1), 0);
        Due.is("one leaf", new StackedLeaves().knee(0), Due.NONE);
        x.loads(999);
        Due.is("none is whole", x.knee(-1), 0);
    }

    private static void chosenIs(StackedLeaves x, int p, int d, int bits) {
        String call = "chosen(" + p + ", " + d + ", ";
        Due.is(call + "0)", x.chosen(p, d, 0), bits < 0 ? bits : Integer.bitCount(bits));
        Due.is(call + "1)", x.chosen(p, d, 1), bits);
    }

    private static void chosen() {
        StackedLeaves x = Due.told(Due.FIVE);
        chosenIs(x, 0, 0, 1);
        chosenIs(x, 12, 3, 1);
        chosenIs(x, 40, 10, 1);
        chosenIs(x, 40, 9, 3);
        chosenIs(x, 30, 6, 3);
        chosenIs(x, 30, 2, Due.NONE);
        chosenIs(x, 1, 0, Due.NONE);
        // 3 and 5 and 9 and 17 all hold it by two leaves
        chosenIs(x, 41, 99, 3);
        chosenIs(x, 999, 99, Due.NONE);
        Due.is("chosen(-1, 0, 0)", x.chosen(-1, 0, 0), Due.BAD);
        Due.is("chosen(1000, 0, 0)", x.chosen(1000, 0, 0), Due.BAD);
        Due.is("chosen(0, -1, 0)", x.chosen(0, -1, 0), Due.BAD);
        Due.is("chosen(0, 100, 0)", x.chosen(0, 100, 0), Due.BAD);
        Due.is("chosen(0, 0, -1)", x.chosen(0, 0, -1), Due.BAD);
        Due.is("chosen(0, 0, 2)", x.chosen(0, 0, 2), Due.BAD);
        x.breaks(0);
        chosenIs(x, 0, 0, 2);
        // leaf 1 is the uppermost of its packs, so that its REACH is 0 there
        chosenIs(x, 3, 1, 2);
        x.breaks(2);
        // 1 alone bends by 20 / 3, with 3 (NIP 7) as well, with 4 (NIP 5) by 5 + 5 / 12
        chosenIs(x, 20, 6, 18);
        chosenIs(x, 12, 3, Due.NONE);
        chosenIs(x, 12, 4, 2);
        x.loads(999);
        chosenIs(x, 0, 99, Due.NONE);
        StackedLeaves gaps = Due.told("l9 1 30 99;l9 9 0 99;l9 9 29 99;l9 9 28 99;");
        // without leaf 1 between them the others are near: NIP 1 of leaf 2, 2 of leaf 3
        chosenIs(gaps, 11, 2, 5);
        chosenIs(gaps, 60, 9, 5);
        chosenIs(gaps, 99, 99, 1);
        chosenIs(gaps, 100, 99, 3);
        chosenIs(gaps, 100, 36, 5);
        StackedLeaves eight = Due.told("l9 9 30 99;".repeat(8));
        chosenIs(eight, 693, 11, 127);
        chosenIs(eight, 792, 11, 255);
        chosenIs(eight, 792, 10, Due.NONE);
        chosenIs(eight, 793, 99, Due.NONE);
    }

    private static void nothingIsChanged() {
        StackedLeaves x = Due.told(Due.FIVE);
        x.breaks(1);
        String before = Due.state(x);
        for (int what = 0; what < 3; what++) {
            x.bend(999, what);
            x.bears(0, 999, what);
            x.least(what);
            x.chosen(999, 99, what);
            x.knee(what);
            x.rate(999);
            x.which(what);
            x.ask();
        }
        Due.same("looking", Due.state(x), before);
        Due.is("looking is not done", x.count(7), 2);
    }
}
