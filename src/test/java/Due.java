/** What the tests of the project share: it counts the answers that are not as due. */
final class Due {
    static final int BAD = -1, STATE = -2, FULL = -3, NONE = -9, NO = -1000000, NOT = -2000000;

    /** The pack of the document's own runs: lengths 9 8 6 4 2, REACH 0 3 3 10 10. */
    static final String FIVE = "l9 4 20 40;l8 3 17 40;l6 3 17 20;l4 5 10 60;l2 9 12 99;";
    /** REACH 0 30 30. */
    static final String THREE = "l5 2 30 10;l5 2 0 10;l5 2 30 10;";

    private static int wrong = 0;
    private static int looked = 0;

    private Due() {
    }

    static void is(String call, long got, long want) {
        looked++;
        if (got != want) {
            wrong++;
            System.out.println(call + " answered " + got + ", due is " + want);
        }
    }

    static void type(StackedLeaves x, String text) {
        for (int i = 0; i < text.length(); i++) {
            x.type(text.charAt(i));
        }
    }

    static StackedLeaves told(String text) {
        StackedLeaves x = new StackedLeaves();
        type(x, text);
        is("tells() of " + text, x.tells(), text.chars().filter(c -> c == ';').count());
        return x;
    }

    /** What a text answers to tells() on a new object. */
    static int tellsOf(String text) {
        StackedLeaves x = new StackedLeaves();
        type(x, text);
        return x.tells();
    }

    /** All that 1 tells but THE TEXT, as one line. */
    static String state(StackedLeaves x) {
        StringBuilder all = new StringBuilder();
        for (int i = 0; i < x.count(0); i++) {
            for (int what = 0; what < 5; what++) {
                all.append(x.leaf(i, what)).append(' ');
            }
            all.append("; ");
        }
        return all.toString();
    }

    static void same(String call, String got, String want) {
        looked++;
        if (!got.equals(want)) {
            wrong++;
            System.out.println(call + " left " + got + ", due is " + want);
        }
    }

    static void end() {
        System.out.println(wrong == 0 ? looked + " answers are as due" : wrong + " of " + looked + " answers are not as due");
        if (wrong != 0) {
            System.exit(1);
        }
    }
}
