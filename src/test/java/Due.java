import java.util.Arrays;
import java.util.function.IntUnaryOperator;

/** What the tests of the project share: it counts the answers that are not as due. */
final class Due {
    static final int BAD = -1, STATE = -2, FULL = -3, NONE = -9, NO = -1000000, NOT = -2000000;

    /** The pack of the document's own runs: lengths 9 8 6 4 2, REACH 0 3 3 10 10. */
    static final String FIVE = "l9 4 20 40;l8 3 17 40;l6 3 17 20;l4 5 10 60;l2 9 12 99;";
    /** REACH 0 30 30. */
    static final String THREE = "l5 2 30 10;l5 2 0 10;l5 2 30 10;";
    /** The most of everything: 8 leaves that bear alike, in 88 letters. */
    static final String EIGHT = "l9 9 30 99;".repeat(8);
    /** The greatest REACH: 0 30 30 60 60 90 90 120, of STIFF 1 each. */
    static final String STEEP = "l9 1 30 99;l9 1 0 99;".repeat(4);

    private static int wrong = 0;
    private static int looked = 0;
    private static String words = "";

    private Due() {
    }

    /** The words of the document that the answers looked at next are due by; they stand ahead of each fault. */
    static void words(String quote) {
        words = "[" + quote + "] ";
    }

    static void is(String call, long got, long want) {
        looked++;
        if (got != want) {
            wrong++;
            System.out.println(words + call + " answered " + got + ", due is " + want);
        }
    }

    static void type(StackedLeaves x, String text) {
        for (int i = 0; i < text.length(); i++) {
            x.type(text.charAt(i));
        }
    }

    static StackedLeaves told(String text) {
        StackedLeaves x = new StackedLeaves();
        type(x, text);
        is("tells() of " + text, x.tells(), text.chars().filter(c -> c == ';').count());
        return x;
    }

    /** What a text answers to tells() on a new object. */
    static int tellsOf(String text) {
        StackedLeaves x = new StackedLeaves();
        type(x, text);
        return x.tells();
    }

    static void taken(String text, int leaves) {
        is("tells() of '" + text + "'", tellsOf(text), leaves);
    }

    static void fault(String text, int place) {
        is("tells() of '" + text + "'", tellsOf(text), -10 - place);
    }

    /** Numbers outside of a range: those next to it, those far off, and those that are like ones in it by 5, 8 or 16 bits. */
    static int[] outside(int least, int most) {
        int[] all = {
            least - 1, most + 1, least - 32, least + 32, most + 32, least - 256, least + 256, least + 65536, least - 65536,
            Integer.MIN_VALUE, Integer.MIN_VALUE + 1, Integer.MAX_VALUE - 1, Integer.MAX_VALUE};
        return Arrays.stream(all).filter(n -> n < least || n > most).toArray();
    }

    /** The call is refused by each number outside of a range, and by none that is its least or its most. */
    static void range(String call, IntUnaryOperator answer, int least, int most, int refusal) {
        for (int n : outside(least, most)) {
            is(call + " by " + n, answer.applyAsInt(n), refusal);
        }
        is(call + " takes " + least, answer.applyAsInt(least) == refusal ? 0 : 1, 1);
        is(call + " takes " + most, answer.applyAsInt(most) == refusal ? 0 : 1, 1);
    }

    /** All that 1 tells but THE TEXT, as one line. */
    static String state(StackedLeaves x) {
        StringBuilder all = new StringBuilder();
        for (int i = 0; i < x.count(0); i++) {
            for (int what = 0; what < 5; what++) {
                all.append(x.leaf(i, what)).append(' ');
            }
            all.append("; ");
        }
        return all.toString();
    }

    static void same(String call, String got, String want) {
        looked++;
        if (!got.equals(want)) {
            wrong++;
            System.out.println(words + call + " left " + got + ", due is " + want);
        }
    }

    static void end() {
        System.out.println(wrong == 0 ? looked + " answers are as due" : wrong + " of " + looked + " answers are not as due");
        if (wrong != 0) {
            System.exit(1);
        }
    }
}
