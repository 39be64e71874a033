import java.util.ArrayDeque;
import java.util.Deque;

/** 'Terms', part 1 (LEAVES, THE TEXT, DONE, UNDONE): a test for each of its words that name an edge. */
public final class TermsLeavesTest {
    /** Of STRENGTH 9, so that a figure and ; are behind every other number by one blank. */
    private static final String ONE = "l9 9 9 9;";
    private static final String AT_FIRST = "1 1 0 99 1 ; ";

    public static void main(String[] args) {
        oneToEightLeaves();
        length();
        lengthNoGreaterThanAbove();
        stiff();
        camber();
        strength();
        wholeOrBroken();
        atFirst();
        hundredLetters();
        blanks();
        blanksNeededOnlyBetweenNumbers();
        oneItemAtLeast();
        everyLetterAsEveryPart();
        rowsOfFigures();
        firstTokenThatCantStand();
        aNinthL();
        aNumberBeyond();
        anyOtherLetter();
        aNumberAbove99();
        aZeroAheadOfOthers();
        endsTooEarly();
        anEmptyText();
        allWhole();
        latestThatWasNotRefused();
        asAheadOfIt();
        butTheText();
        sixAreKnown();
        sixAreKnownAllAround();
        Due.end();
    }

    private static void oneToEightLeaves() {
        Due.words("LEAVES 0, 1, .. (1 to 8), from above");
        for (int n = 1; n <= 8; n++) {
            StackedLeaves x = Due.told(ONE.repeat(n));
            Due.is("LEAVES", x.count(0), n);
            Due.is("the first", x.leaf(0, 0), 9);
            Due.is("the last", x.leaf(n - 1, 0), 9);
            Due.is("ahead of the first", x.leaf(-1, 0), Due.BAD);
            Due.is("behind the last", x.leaf(n, 0), Due.BAD);
        }
        Due.fault("", 0);
        Due.fault(ONE.repeat(9), 72);
        StackedLeaves y = Due.told("l8 1 1 1;l7 2 2 2;l6 3 3 3;l5 4 4 4;l4 5 5 5;l3 6 6 6;l2 7 7 7;l1 8 8 8;");
        for (int i = 0; i < 8; i++) {
            Due.is("LENGTH from above", y.leaf(i, 0), 8 - i);
            Due.is("STRENGTH from above", y.leaf(i, 3), i + 1);
        }
    }

    private static int number(String text, int what) {
        return Due.told(text).leaf(0, what);
    }

    private static void length() {
        Due.words("LENGTH (1 to 9, ..)");
        Due.is("the least", number("l1 5 5 5;", 0), 1);
        Due.is("the most", number("l9 5 5 5;", 0), 9);
        Due.fault("l0 5 5 5;", 1);
        Due.fault("l10 5 5 5;", 1);
    }

    private static void lengthNoGreaterThanAbove() {
        Due.words("LENGTH (.., no greater than that of the one above)");
        for (int above = 1; above <= 9; above++) {
            String one = "l" + above + " 5 5 5;";
            Due.taken(one + one, 2);
            Due.taken(one + "l1 5 5 5;", 2);
            Due.fault(one + "l" + (above + 1) + " 5 5 5;", 10);
            Due.fault(one + "l0 5 5 5;", 10);
        }
        Due.fault("l9 5 5 5;l4 5 5 5;l5 5 5 5;", 19);
        Due.taken("l9 5 5 5;l4 5 5 5;l4 5 5 5;", 3);
        Due.fault("l1 5 5 5;".repeat(7) + "l2 5 5 5;", 64);
        // what was above in the leaves as they were, or in a text that was refused, does not count
        StackedLeaves x = Due.told("l2 5 5 5;");
        Due.type(x, "l1 5 5 5;l2");
        Due.is("a fault", x.tells(), -20);
        x.clear();
        Due.type(x, "l9 5 5 5;");
        Due.is("the uppermost one", x.tells(), 1);
    }

    private static void stiff() {
        Due.words("STIFF (1 to 9)");
        Due.is("the least", number("l5 1 5 5;", 1), 1);
        Due.is("the most", number("l5 9 5 5;", 1), 9);
        Due.fault("l5 0 5 5;", 3);
        Due.fault("l5 10 5 5;", 3);
        Due.taken("l5 1 5 5;l5 9 5 5;", 2);
    }

    private static void camber() {
        Due.words("CAMBER (0 to 30)");
        Due.is("the least", number("l5 5 0 5;", 2), 0);
        Due.is("the most", number("l5 5 30 5;", 2), 30);
        Due.fault("l5 5 31 5;", 5);
        Due.fault("l5 5 99 5;", 5);
        Due.taken("l5 5 0 5;l5 5 30 5;", 2);
        StackedLeaves x = Due.told("l5 5 15 5;");
        Due.range("cambers(0, c)", c -> x.cambers(0, c), 0, 30, Due.BAD);
        Due.is("the most", x.leaf(0, 2), 30);
    }

    private static void strength() {
        Due.words("STRENGTH (1 to 99)");
        Due.is("the least", number("l5 5 5 1;", 3), 1);
        Due.is("the most", number("l5 5 5 99;", 3), 99);
        Due.fault("l5 5 5 0;", 7);
        Due.fault("l5 5 5 100;", 7);
        Due.taken("l5 5 5 1;l5 5 5 99;", 2);
    }

    private static void wholeOrBroken() {
        Due.words("A LEAF is whole, or BROKEN.");
        StackedLeaves x = Due.told(Due.EIGHT);
        for (int i = 0; i < 8; i++) {
            x.breaks(i);
            Due.is("BROKEN", x.leaf(i, 4), 0);
            Due.is("the others", x.count(1), 7);
            x.mends(i);
            Due.is("whole", x.leaf(i, 4), 1);
        }
    }

    private static void atFirst() {
        Due.words("At first there is one, of LENGTH 1, STIFF 1, CAMBER 0, STRENGTH 99, whole.");
        StackedLeaves x = new StackedLeaves();
        Due.same("new", Due.state(x), AT_FIRST);
        Due.is("one", x.count(0), 1);
        Due.is("a second", x.leaf(1, 0), Due.BAD);
    }

    private static void hundredLetters() {
        Due.words("(100 letters at most)");
        Due.taken(Due.EIGHT + " ".repeat(12), 8);
        // the 100th letter is the ; of the last item
        Due.taken(Due.EIGHT.substring(0, 87) + " ".repeat(12) + ";", 8);
        Due.fault(Due.EIGHT + " ".repeat(11) + "x", 99);
        Due.fault(Due.EIGHT.substring(0, 87) + " ".repeat(13), 100);
        StackedLeaves x = new StackedLeaves();
        Due.type(x, Due.EIGHT + " ".repeat(12));
        Due.is("the 101st", x.type('x'), Due.FULL);
        Due.is("letters", x.count(6), 100);
        Due.is("the 101st is not read", x.tells(), 8);
        // a ; that would be the 101st letter is missing
        Due.fault(Due.EIGHT.substring(0, 87) + " ".repeat(13) + ";", 100);
    }

    private static void blanks() {
        Due.words("blanks (32), any number, ahead of, between, behind TOKENS");
        String[] parts = {"", "l", "9", "9", "9", "9", ";", "l", "9", "9", "9", "9", ";"};
        for (int at = 0; at < parts.length; at++) {
            for (int blanks = 1; blanks <= 82; blanks += 27) {
                StringBuilder text = new StringBuilder();
                for (int i = 0; i < parts.length; i++) {
                    boolean figures = i + 1 < parts.length && parts[i].equals("9") && parts[i + 1].equals("9");
                    text.append(parts[i]).append(i == at ? " ".repeat(blanks) : figures ? " " : "");
                }
                Due.is("letters fit", text.length() <= 100 ? 1 : 0, 1);
                Due.taken(text.toString(), 2);
            }
        }
        Due.taken("  l  9  9  9  9  ;  l  9  9  9  9  ;  ", 2);
        int[] noBlanks = {0, 9, 10, 11, 12, 13, 31, 33, 127, 133, 160};
        for (int letter : noBlanks) {
            Due.fault((char) letter + ONE, 0);
            Due.fault("l" + (char) letter + "9 9 9 9;", 1);
            Due.fault("l9" + (char) letter + "9 9 9;", 2);
            Due.fault(ONE + (char) letter, 9);
        }
    }

    private static void blanksNeededOnlyBetweenNumbers() {
        Due.words("(needed only between two NUMBERS)");
        Due.taken("l9 9 9 9;l9 9 9 9;", 2);
        Due.fault("l99 9 9;", 1);
        Due.fault("l9 99 9;", 3);
        Due.fault("l9 9 99;", 5);
        // 29 is a CAMBER by itself, so that STRENGTH is what is missing
        Due.fault("l9 9 29;", 7);
        // a blank within a NUMBER makes two of it
        Due.fault("l9 9 9 9 9;", 9);
        Due.is("9 9 is not 99", number("l9 9 9 9 ;", 3), 9);
    }

    private static void oneItemAtLeast() {
        Due.words("It tells ITEMS (one at least)");
        Due.taken(ONE, 1);
        Due.fault("", 0);
        Due.fault(" ", 1);
    }

    /** Each of the 256 letters as each part of an item: it stands there, or it is the FAULT. */
    private static void everyLetterAsEveryPart() {
        Due.words("each: l, LENGTH, STIFF, CAMBER, STRENGTH, ;");
        String[] ahead = {"", "l", "l5 ", "l5 5 ", "l5 5 5 ", "l5 5 5 5 "};
        for (int part = 0; part < ahead.length; part++) {
            for (int letter = 0; letter < 256; letter++) {
                String text = ahead[part] + (char) letter;
                if (part == 5 && letter == ';') {
                    Due.taken(text, 1);
                } else {
                    Due.fault(text, letter == ' ' || stands(part, letter) ? text.length() : ahead[part].length());
                    // what comes behind does not move it
                    Due.fault(text + " ", letter == ' ' || stands(part, letter) ? text.length() + 1 : ahead[part].length());
                }
            }
        }
    }

    private static boolean stands(int part, int letter) {
        return switch (part) {
            case 0 -> letter == 'l';
            case 3 -> letter >= '0' && letter <= '9';
            case 5 -> letter == ';';
            default -> letter >= '1' && letter <= '9';
        };
    }

    private static void rowsOfFigures() {
        Due.words("TOKENS are the letter l, NUMBERS (rows of figures) and ; .");
        for (int n = 1; n <= 99; n++) {
            Due.is("STRENGTH " + n, number("l5 5 5 " + n + ";", 3), n);
        }
        for (int n = 0; n <= 30; n++) {
            Due.is("CAMBER " + n, number("l5 5 " + n + " 5;", 2), n);
        }
        Due.fault("k9 9 9 9;", 0);
        Due.fault("m9 9 9 9;", 0);
        Due.fault("L9 9 9 9;", 0);
        Due.fault("l9 9 9 9:", 8);
        Due.fault("l9 9 9 9<", 8);
    }

    private static void firstTokenThatCantStand() {
        Due.words("FAULT: the place of the first letter of the first TOKEN that can't stand there");
        Due.fault("l5 5 31 0;", 5);
        Due.fault("l5 5 5 0 x", 7);
        Due.fault("l5 5;5 x", 4);
        Due.fault("l5 5 5 5;;;", 9);
        Due.fault("l5 5 5 5;   5 5", 12);
        Due.fault("l5 5 5   100;", 9);
        Due.fault(";x", 0);
        // the first one, though the text ends too early as well
        Due.fault("l5 x", 3);
    }

    private static void aNinthL() {
        Due.words("(a ninth l, ..)");
        Due.taken(ONE.repeat(8), 8);
        Due.fault(ONE.repeat(8) + "l", 72);
        Due.fault(ONE.repeat(8) + "  l", 74);
        Due.fault(ONE.repeat(8) + ONE, 72);
        Due.fault(ONE.repeat(8) + ";", 72);
        Due.fault(ONE.repeat(8) + "9", 72);
        // the eighth may still end too early
        Due.fault(ONE.repeat(7) + "l", 64);
    }

    private static void aNumberBeyond() {
        Due.words("(.., a NUMBER beyond what it may be, too)");
        Due.fault("l5 5 5 5;  l6", 12);
        Due.fault("l   0", 4);
        Due.fault("l5   0", 5);
        Due.fault("l5 5   31", 7);
        Due.fault("l5 5 5   0", 9);
    }

    private static void anyOtherLetter() {
        Due.words("of any other letter (each is a TOKEN by itself)");
        Due.fault("xyz", 0);
        Due.fault("l5 5 5 5xyz", 8);
        // a letter ends a row of figures: 5 stands there, x does not
        Due.fault("l5x 5 5 5;", 2);
        Due.fault("l5 5 3x", 6);
        Due.fault("l5 -5 5 5;", 3);
        Due.fault("l5 +5 5 5;", 3);
        Due.fault("l5 5.5 5 5;", 4);
        Due.fault("ll5 5 5 5;", 1);
        Due.fault("l5 5 5 5;" + (char) 255, 9);
    }

    private static void aNumberAbove99() {
        Due.words("a NUMBER above 99 .. , that TOKEN's");
        Due.is("99", number("l5 5 5 99;", 3), 99);
        Due.fault("l5 5 5 100;", 7);
        Due.fault("l5 5 100 5;", 5);
        Due.fault("100", 0);
        Due.fault("l5 5 5 5 100", 9);
        // by 32 bits, and by 64, these would be 5
        Due.fault("l5 5 5 4294967301;", 7);
        Due.fault("l5 5 5 18446744073709551621;", 7);
        Due.fault("l5 5 5 " + "9".repeat(93), 7);
        Due.fault("l" + "5".repeat(99), 1);
    }

    private static void aZeroAheadOfOthers() {
        Due.words("a NUMBER .. with a 0 ahead of others, that TOKEN's");
        Due.is("0 alone", number("l5 5 0 5;", 2), 0);
        Due.fault("l5 5 00 5;", 5);
        Due.fault("l5 5 05 5;", 5);
        Due.fault("l05 5 5 5;", 1);
        Due.fault("l5 05 5 5;", 3);
        Due.fault("l5 5 5 05;", 7);
        Due.fault("l5 5 5 099;", 7);
        Due.fault("l5 5 5 5;l05", 10);
        Due.taken("l5 5 10 50;", 1);
        Due.taken("l5 5 20 90;", 1);
    }

    private static void endsTooEarly() {
        Due.words("the text's length, if it ends too early");
        String two = "l5 5 15 55;l5 5 15 55;";
        for (int length = 0; length < two.length(); length++) {
            if (length == 11) {
                Due.taken(two.substring(0, length), 1);
            } else {
                Due.fault(two.substring(0, length), length);
                Due.fault(two.substring(0, length) + "   ", length + 3);
            }
        }
        Due.fault(" ".repeat(100), 100);
    }

    private static void anEmptyText() {
        Due.words("(one that is empty, too)");
        Due.fault("", 0);
        StackedLeaves x = Due.told(Due.FIVE);
        Due.is("behind a text told", x.tells(), -10);
        Due.type(x, ONE);
        x.clear();
        Due.is("behind clear()", x.tells(), -10);
        Due.is("LEAVES", x.count(0), 5);
    }

    private static void allWhole() {
        Due.words("DONE: a text told (all whole)");
        StackedLeaves x = Due.told(Due.EIGHT);
        for (int i = 0; i < 8; i++) {
            x.breaks(i);
        }
        Due.type(x, Due.EIGHT);
        Due.is("tells()", x.tells(), 8);
        Due.is("whole", x.count(1), 8);
        StackedLeaves y = new StackedLeaves();
        y.breaks(0);
        Due.type(y, ONE.repeat(3));
        y.tells();
        Due.is("whole", y.count(1), 3);
        // fewer than were told ahead of it, or than a text had that was refused
        StackedLeaves z = Due.told(Due.EIGHT);
        Due.type(z, ONE);
        z.tells();
        Due.is("whole of one", z.count(1), 1);
        Due.type(z, ONE.repeat(8) + "l");
        Due.is("a ninth", z.tells(), -82);
        z.clear();
        Due.type(z, ONE.repeat(2));
        z.tells();
        Due.is("whole of two", z.count(1), 2);
    }

    private static void latestThatWasNotRefused() {
        Due.words("UNDONE: the latest tells(), loads(), breaks(), mends(), cambers() that was not refused");
        StackedLeaves x = Due.told(Due.THREE);
        x.breaks(1);
        String before = Due.state(x);
        x.cambers(2, 7);
        int[] refused = {
            x.tells(), x.loads(1000), x.loads(-1), x.breaks(1), x.breaks(3), x.mends(0), x.mends(-1), x.cambers(2, 7), x.cambers(2, 31),
            x.cambers(3, 5), x.back(0), x.keep(2), x.sees(1000, 0), x.type(256)};
        for (int answer : refused) {
            Due.is("refused", answer < 0 ? 1 : 0, 1);
        }
        // nor are these DONE, though they are not refused
        x.type('l');
        x.clear();
        x.sees(1, 1);
        x.forget();
        x.keep(0);
        Due.is("may be UNDONE", x.count(7), 3);
        Due.is("undo()", x.undo(), 2);
        Due.same("undo()", Due.state(x), before);
    }

    private static void asAheadOfIt() {
        Due.words("all that 1 tells but THE TEXT is as ahead of it");
        StackedLeaves x = Due.told(Due.EIGHT);
        x.breaks(3);
        String eight = Due.state(x);
        Due.is("loads(999)", x.loads(999), 7);
        Due.is("undo() of loads()", x.undo(), 2);
        Due.same("undo() of loads()", Due.state(x), eight);
        x.loads(0);
        Due.is("undo() of what broke none", x.undo(), 2);
        Due.same("undo() of what broke none", Due.state(x), eight);
        Due.type(x, "l1 1 1 1;");
        x.tells();
        Due.is("undo() of tells()", x.undo(), 2);
        Due.same("undo() of tells(), to more LEAVES", Due.state(x), eight);
        Due.is("undo() of breaks()", x.undo(), 1);
        Due.is("undo() of tells()", x.undo(), 0);
        Due.same("undo() of tells(), to fewer LEAVES", Due.state(x), AT_FIRST);
        Due.is("leaf 1 is gone", x.leaf(1, 0), Due.BAD);
        x.cambers(0, 30);
        x.undo();
        Due.same("undo() of cambers()", Due.state(x), AT_FIRST);
        x.breaks(0);
        x.mends(0);
        x.undo();
        Due.is("undo() of mends()", x.leaf(0, 4), 0);
    }

    private static void butTheText() {
        Due.words("but THE TEXT");
        StackedLeaves x = new StackedLeaves();
        Due.type(x, ONE);
        x.tells();
        Due.type(x, "l9");
        Due.is("undo() of tells()", x.undo(), 0);
        Due.is("letters", x.count(6), 2);
        Due.is("they are those typed last", x.tells(), -12);
        x.breaks(0);
        x.type(' ');
        x.undo();
        Due.is("letters", x.count(6), 3);
    }

    private static void sixAreKnown() {
        Due.words("(6 are known, older ones are lost)");
        for (int done = 0; done <= 30; done++) {
            StackedLeaves x = new StackedLeaves();
            for (int c = 1; c <= done; c++) {
                x.cambers(0, c);
            }
            int known = Math.min(done, 6);
            Due.is("may be UNDONE", x.count(7), known);
            for (int i = 1; i <= known; i++) {
                Due.is("undo() " + i + " of " + done, x.undo(), known - i);
                Due.is("CAMBER", x.leaf(0, 2), done - i);
            }
            Due.is("one more of " + done, x.undo(), Due.STATE);
            Due.is("CAMBER", x.leaf(0, 2), done - known);
            Due.is("may be UNDONE", x.count(7), 0);
        }
    }

    /** As many done, then undone, then done as go once and twice around what can be known. */
    private static void sixAreKnownAllAround() {
        for (int first = 0; first <= 13; first++) {
            for (int undone = 0; undone <= 7; undone++) {
                for (int second = 0; second <= 8; second++) {
                    around(first, undone, second);
                }
            }
        }
    }

    private static void around(int first, int undone, int second) {
        String run = first + " done, " + undone + " undone, " + second + " done";
        StackedLeaves x = new StackedLeaves();
        Deque<Integer> known = new ArrayDeque<>();
        doneAndKnown(x, known, first, 1);
        for (int i = 0; i < undone; i++) {
            undoneAndKnown(x, known, run);
        }
        doneAndKnown(x, known, second, 16);
        Due.is(run, x.count(7), known.size());
        for (int i = 0; i < 7; i++) {
            undoneAndKnown(x, known, run);
        }
    }

    private static void doneAndKnown(StackedLeaves x, Deque<Integer> known, int times, int from) {
        for (int c = from; c < from + times; c++) {
            known.addLast(x.leaf(0, 2));
            x.cambers(0, c);
            if (known.size() > 6) {
                known.removeFirst();
            }
        }
    }

    private static void undoneAndKnown(StackedLeaves x, Deque<Integer> known, String run) {
        int due = known.isEmpty() ? x.leaf(0, 2) : known.peekLast();
        Due.is(run, x.undo(), known.isEmpty() ? Due.STATE : known.size() - 1);
        known.pollLast();
        Due.is(run, x.leaf(0, 2), due);
    }
}
