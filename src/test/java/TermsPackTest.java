/** 'Terms', part 2 (NIP, REACH, BEND, BEARS, RATE, TOO MUCH, LOADED): a test for each of its words that name an edge. */
public final class TermsPackTest {
    public static void main(String[] args) {
        nipZeroAtLeast();
        nipOfTheUppermost();
        reachIsNipsTogether();
        inThePack();
        brokenOnesAreInThePack();
        butBearNothing();
        loadZeroTo999();
        leastNumber();
        notWholePerhaps();
        reachLessThanD();
        allTogetherIsP();
        zeroByZero();
        noneIfNoLeafIsWhole();
        bearsElseZero();
        rateOfThoseReached();
        moreThanItsStrength();
        asLongAsThereIsTooMuch();
        mostBeyond();
        ofSeveralTheLeastNumber();
        lookedAtAnew();
        Due.end();
    }

    private static void fraction(StackedLeaves x, int p, int upper, int lower) {
        Due.is("bend(" + p + ", 0)", x.bend(p, 0), upper);
        Due.is("bend(" + p + ", 1)", x.bend(p, 1), lower);
        Due.is("bend(" + p + ", 2)", x.bend(p, 2), lower > 0 ? upper / lower : Due.NONE);
    }

    private static void borne(StackedLeaves x, int leaf, int p, int upper, int lower) {
        String call = "bears(" + leaf + ", " + p + ", ";
        Due.is(call + "0)", x.bears(leaf, p, 0), upper);
        Due.is(call + "1)", x.bears(leaf, p, 1), lower);
    }

    private static void nips(StackedLeaves x, int... due) {
        int reach = 0;
        for (int i = 0; i < due.length; i++) {
            reach += due[i];
            Due.is("NIP of " + i, x.leaf(i, 5), due[i]);
            Due.is("REACH of " + i, x.leaf(i, 6), reach);
        }
        Due.is("REACH of the last", x.count(4), reach);
    }

    private static void nipZeroAtLeast() {
        Due.words("NIP of a LEAF is CAMBER of the one above it in the PACK less its own, 0 at least");
        // one less, as much, one more, 30 more, 30 less
        nips(Due.told("l5 1 10 9;l5 1 9 9;l5 1 9 9;l5 1 10 9;"), 0, 1, 0, 0);
        nips(Due.told("l5 1 0 9;l5 1 30 9;l5 1 0 9;l5 1 1 9;"), 0, 0, 30, 0);
    }

    private static void nipOfTheUppermost() {
        Due.words("of the uppermost one 0");
        for (int c = 0; c <= 30; c++) {
            Due.is("NIP by CAMBER " + c, Due.told("l5 1 " + c + " 9;l5 1 0 9;").leaf(0, 5), 0);
            Due.is("REACH by CAMBER " + c, Due.told("l5 1 " + c + " 9;l5 1 0 9;").leaf(0, 6), 0);
        }
        // nor is the last leaf above the first one
        nips(Due.told("l5 1 0 9;l5 1 30 9;"), 0, 0);
        // leaf 1 has NIP 30 below leaf 0, and 0 as the uppermost one of what is CHOSEN
        StackedLeaves x = Due.told("l5 1 30 9;l5 1 0 9;l5 1 30 9;");
        x.breaks(0);
        Due.is("in the PACK of all, of 30 and a half", x.bend(1, 2), 30);
        Due.is("in a PACK without leaf 0", x.chosen(1, 1, 1), 2);
    }

    private static void reachIsNipsTogether() {
        Due.words("REACH of a LEAF: NIPS of it and all above it in the PACK, together.");
        nips(Due.told(Due.STEEP), 0, 30, 0, 30, 0, 30, 0, 30);
        nips(Due.told(Due.EIGHT), 0, 0, 0, 0, 0, 0, 0, 0);
        nips(new StackedLeaves(), 0);
        nips(Due.told("l5 1 30 9;l5 1 29 9;l5 1 27 9;l5 1 24 9;l5 1 20 9;l5 1 15 9;l5 1 9 9;l5 1 2 9;"), 0, 1, 2, 3, 4, 5, 6, 7);
    }

    private static void inThePack() {
        Due.words("In a PACK (some LEAVES, in their order)");
        // of 0, 1, 2 leaf 2 has REACH 30, of 0 and 2 it has 1
        StackedLeaves x = Due.told("l5 1 30 99;l5 1 0 99;l5 1 29 99;");
        fraction(x, 5, 5, 1);
        Due.is("0 and 2 do by 3", x.chosen(5, 3, 1), 5);
        Due.is("none does by 2", x.chosen(5, 2, 1), Due.NONE);
    }

    private static void brokenOnesAreInThePack() {
        Due.words("(BROKEN LEAVES are in the PACK as others are, ..)");
        StackedLeaves x = Due.told(Due.STEEP);
        for (int i = 0; i < 8; i++) {
            x.breaks(i);
            nips(x, 0, 30, 0, 30, 0, 30, 0, 30);
        }
        x.cambers(0, 0);
        nips(x, 0, 0, 0, 30, 0, 30, 0, 30);
    }

    private static void butBearNothing() {
        Due.words("(.., but bear nothing.)");
        StackedLeaves x = Due.told(Due.EIGHT);
        for (int i = 0; i < 7; i++) {
            x.breaks(i);
            borne(x, i, 999, 0, 1);
            Due.is("TOO MUCH", x.bears(i, 999, 2), 0);
            fraction(x, 9 * (7 - i), 1, 1);
        }
        borne(x, 7, 999, 999, 1);
        Due.is("RATE", x.rate(999), 9);
    }

    private static void loadZeroTo999() {
        Due.words("a LOAD P (0 to 999)");
        StackedLeaves x = Due.told(Due.FIVE);
        Due.range("bend(p, 0)", p -> x.bend(p, 0), 0, 999, Due.BAD);
        Due.range("bears(0, p, 0)", p -> x.bears(0, p, 0), 0, 999, Due.BAD);
        Due.range("rate(p)", x::rate, 0, 999, Due.BAD);
        Due.range("chosen(p, 9, 0)", p -> x.chosen(p, 9, 0), 0, 999, Due.BAD);
        Due.range("sees(p, 0)", p -> x.sees(p, 0), 0, 999, Due.BAD);
        Due.range("loads(p)", x::loads, 0, 999, Due.BAD);
    }

    private static StackedLeaves onlyTheLastOf(String text) {
        StackedLeaves x = Due.told(text);
        for (int i = 0; i < x.count(0) - 1; i++) {
            x.breaks(i);
        }
        return x;
    }

    private static void leastNumber() {
        Due.words("BEND by a LOAD P (0 to 999): the least number d, 0 or more");
        // of REACH 120 alone: all d from 0 to 120 are by 0, the least of them is due
        StackedLeaves x = onlyTheLastOf(Due.STEEP);
        fraction(x, 0, 0, 1);
        fraction(x, 1, 121, 1);
        fraction(x, 999, 1119, 1);
        borne(x, 7, 1, 1, 1);
        borne(x, 7, 999, 999, 1);
    }

    private static void notWholePerhaps() {
        Due.words("not whole perhaps");
        StackedLeaves x = Due.told(Due.EIGHT);
        fraction(x, 1, 1, 72);
        fraction(x, 2, 1, 36);
        fraction(x, 71, 71, 72);
        fraction(x, 72, 1, 1);
        fraction(x, 73, 73, 72);
        fraction(x, 144, 2, 1);
        fraction(x, 999, 111, 8);
        borne(x, 7, 1, 1, 8);
        borne(x, 0, 999, 999, 8);
        // REACH 0 and 1, STIFF 3 and 4: 7 d - 4 is P
        StackedLeaves y = Due.told("l5 3 1 99;l5 4 0 99;");
        fraction(y, 2, 2, 3);
        fraction(y, 4, 8, 7);
        borne(y, 0, 4, 24, 7);
        borne(y, 1, 4, 4, 7);
        fraction(y, 10, 2, 1);
    }

    private static void reachLessThanD() {
        Due.words("of all whole LEAVES whose REACH is less than d");
        StackedLeaves x = Due.told("l5 3 30 99;l5 9 20 99;l5 9 20 99;l5 9 19 99;");
        // d comes to REACH 10 by 30, to REACH 11 by 30 + 21
        int[][] due = {{29, 29, 3, 3}, {30, 10, 1, 3}, {31, 211, 21, 21}, {50, 230, 21, 21}, {51, 11, 1, 21}, {52, 331, 30, 30}};
        for (int[] d : due) {
            fraction(x, d[0], d[1], d[2]);
            Due.is("rate(" + d[0] + ")", x.rate(d[0]), d[3]);
        }
        borne(x, 1, 30, 0, 1);
        borne(x, 1, 31, 3, 7);
        borne(x, 2, 31, 3, 7);
        borne(x, 3, 51, 0, 1);
        borne(x, 3, 52, 3, 10);
        // two of one REACH come to bear by one load
        borne(x, 0, 31, 211, 7);
    }

    /** By every load there is; a new object for each, as one is good for 512 calls. */
    private static void allTogetherIsP() {
        Due.words("STIFF times (d less REACH), all together, is P");
        for (String text : new String[] {Due.FIVE, Due.EIGHT, Due.STEEP}) {
            for (int p = 0; p <= 999; p++) {
                StackedLeaves x = Due.told(text);
                x.breaks(1);
                int lower = x.rate(p) == 0 ? 1 : x.rate(p);
                int together = 0;
                for (int i = 0; i < x.count(0); i++) {
                    // in lowest terms, so that the lower number is a part of RATE
                    together += x.bears(i, p, 0) * (lower / x.bears(i, p, 1));
                }
                Due.is("all together by " + p, together, p * lower);
            }
        }
    }

    private static void zeroByZero() {
        Due.words("(0 by P of 0; ..)");
        StackedLeaves[] all = {new StackedLeaves(), Due.told(Due.STEEP), Due.told(Due.EIGHT), onlyTheLastOf(Due.STEEP), onlyTheLastOf(Due.EIGHT)};
        for (StackedLeaves x : all) {
            fraction(x, 0, 0, 1);
            Due.is("rate(0)", x.rate(0), 0);
            borne(x, 0, 0, 0, 1);
            x.loads(999);
            Due.is("none is whole", x.count(1), 0);
            fraction(x, 0, 0, 1);
            Due.is("rate(0)", x.rate(0), 0);
            borne(x, 0, 0, 0, 1);
        }
    }

    private static void noneIfNoLeafIsWhole() {
        Due.words("(.. none, if P is above 0 and no LEAF is whole.)");
        StackedLeaves x = onlyTheLastOf(Due.STEEP);
        Due.is("one is whole", x.bend(1, 2), 121);
        x.breaks(7);
        for (int p : new int[] {1, 2, 999}) {
            fraction(x, p, Due.NONE, Due.NONE);
            Due.is("rate(" + p + ")", x.rate(p), Due.NONE);
            for (int what = 0; what < 3; what++) {
                Due.is("bears(0, " + p + ", " + what + ")", x.bears(0, p, what), Due.NONE);
                Due.is("bears(7, " + p + ", " + what + ")", x.bears(7, p, what), Due.NONE);
            }
        }
        x.mends(3);
        fraction(x, 1, 61, 1);
    }

    private static void bearsElseZero() {
        Due.words("What a LEAF BEARS: .. if it is whole and its REACH is less than d, else 0.");
        StackedLeaves x = Due.told("l5 3 30 99;l5 9 20 99;");
        borne(x, 1, 0, 0, 1);
        borne(x, 1, 1, 0, 1);
        borne(x, 1, 30, 0, 1);
        borne(x, 1, 31, 3, 4);
        x.breaks(1);
        borne(x, 1, 31, 0, 1);
        borne(x, 1, 999, 0, 1);
    }

    private static void rateOfThoseReached() {
        Due.words("RATE: STIFF of all whole LEAVES whose REACH is less than d, together.");
        StackedLeaves x = Due.told(Due.EIGHT);
        Due.is("rate(0)", x.rate(0), 0);
        Due.is("the most", x.rate(1), 72);
        x.breaks(7);
        Due.is("a BROKEN one", x.rate(1), 63);
        StackedLeaves y = Due.told(Due.STEEP);
        // d comes to 30, 60, 90 and 120 by 30, 120, 270, 480
        int[][] due = {{30, 1}, {31, 3}, {120, 3}, {121, 5}, {270, 5}, {271, 7}, {480, 7}, {481, 8}, {999, 8}};
        for (int[] d : due) {
            Due.is("rate(" + d[0] + ")", y.rate(d[0]), d[1]);
        }
    }

    private static void moreThanItsStrength() {
        Due.words("TOO MUCH: a LEAF that BEARS more than its STRENGTH.");
        StackedLeaves x = Due.told(Due.EIGHT);
        Due.is("99 of 99", x.bears(7, 792, 2), 0);
        Due.is("99 and 1 / 8 of 99", x.bears(7, 793, 2), 1);
        Due.is("just as much breaks none", x.loads(792), 0);
        StackedLeaves y = Due.told("l5 1 0 1;");
        Due.is("1 of 1", y.bears(0, 1, 2), 0);
        Due.is("2 of 1", y.bears(0, 2, 2), 1);
        Due.is("1 breaks none", y.loads(1), 0);
        Due.is("2 breaks it", y.loads(2), 1);
    }

    /** By 80 each break makes the next leaf bear TOO MUCH: 80 / 8 of 9, 80 / 7 of 11, .. 80 / 1 of the last one's. */
    private static StackedLeaves chain(int fifth, int last) {
        int[] strengths = {9, 11, 13, 15, fifth, 26, 39, last};
        StringBuilder text = new StringBuilder();
        for (int strength : strengths) {
            text.append("l5 1 0 ").append(strength).append(';');
        }
        return Due.told(text.toString());
    }

    private static void asLongAsThereIsTooMuch() {
        Due.words("LOADED by P: as long as there is TOO MUCH for a LEAF, that one is BROKEN");
        Due.is("all eight", chain(19, 79).loads(80), 8);
        Due.is("80 is not more than 80", chain(19, 80).loads(80), 7);
        Due.is("80 / 4 is not more than 20", chain(20, 79).loads(80), 4);
        Due.is("72 / 8 is not more than 9", chain(19, 79).loads(72), 0);
        Due.is("73 / 7 is not more than 11", chain(19, 79).loads(73), 1);
        StackedLeaves x = chain(19, 80);
        x.loads(80);
        for (int i = 0; i < 8; i++) {
            Due.is("whole", x.leaf(i, 4), i == 7 ? 1 : 0);
        }
        Due.is("again", x.loads(80), 0);
        Due.is("no more than that", x.loads(81), 1);
        Due.is("none is whole", x.loads(999), 0);
    }

    private static void leastIs(StackedLeaves x, int load, int leaf, int many) {
        Due.is("least(0)", x.least(0), load);
        Due.is("least(1)", x.least(1), leaf);
        Due.is("least(2)", x.least(2), many);
    }

    private static void mostBeyond() {
        Due.words("for which what it BEARS is most beyond its STRENGTH (the difference of both; ..)");
        // by 18 d is 9 / 10: 7 d is 3 / 10 beyond 6, 8 d is more, but 2 / 10 beyond 7
        leastIs(Due.told("l5 7 0 6;l5 8 0 7;l5 5 0 99;"), 18, 0, 2);
        leastIs(Due.told("l5 8 0 7;l5 7 0 6;l5 5 0 99;"), 18, 1, 2);
        // by 11 d is 11 / 10: as many times its STRENGTH for each, 1 / 10 beyond 1, 9 / 10 beyond 9
        leastIs(Due.told("l5 1 0 1;l5 9 0 9;"), 11, 1, 2);
        leastIs(Due.told("l5 9 0 9;l5 1 0 1;"), 11, 0, 2);
    }

    private static void ofSeveralTheLeastNumber() {
        Due.words("of several the one of the least number");
        leastIs(Due.told(Due.EIGHT), 793, 0, 8);
        StackedLeaves x = Due.told(Due.EIGHT);
        x.breaks(0);
        x.breaks(1);
        leastIs(x, 595, 2, 6);
        // leaf 0 bears as much, but has STRENGTH for more
        leastIs(Due.told("l5 1 0 99;l5 1 0 9;l5 1 0 9;"), 28, 1, 2);
    }

    private static void lookedAtAnew() {
        Due.words("then BEND is looked at anew");
        // by 30 leaf 0 bears 15 of 14; then leaf 1, of REACH 0, bears 30 of 29; then leaf 2, of REACH 30, bears 30 of 30
        StackedLeaves x = Due.told("l5 1 30 14;l5 1 30 29;l5 1 0 30;");
        Due.is("loads(28)", x.loads(28), 0);
        Due.is("loads(30)", x.loads(30), 2);
        Due.is("leaf 2 is whole", x.leaf(2, 4), 1);
        fraction(x, 30, 60, 1);
        // of REACH 20 leaf 2 comes to bear as leaf 0 is BROKEN, and leaf 1 bears no more than 25 of 29
        StackedLeaves y = Due.told("l5 1 20 14;l5 1 20 29;l5 1 0 30;");
        Due.is("loads(30)", y.loads(30), 1);
        fraction(y, 30, 25, 1);
    }
}
