import java.util.Random;

/** Runs of calls by chance (always the same chance), each answer beside that of Reference. */
public final class ReferenceTest {
    private static final int RUNS = 2000;
    /** An object is good for 512 calls; telling one text more may take 150 of them. */
    private static final int CALLS = 512 - 150;

    private final Random chance;
    private final StackedLeaves x = new StackedLeaves();
    private final Reference r = new Reference();
    private int calls = 0;

    private ReferenceTest(long seed) {
        chance = new Random(seed);
    }

    public static void main(String[] args) {
        for (int run = 0; run < RUNS; run++) {
            new ReferenceTest(run).run();
        }
        Due.end();
    }

    private void run() {
        while (calls < CALLS) {
            if (chance.nextInt(12) == 0) {
                tell(chance.nextInt(3) == 0 ? brokenText() : goodText());
            } else {
                call();
            }
        }
    }

    private void due(String call, int got, int want) {
        calls++;
        Due.is(call, got, want);
    }

    /** A number from 0 to most, most often; now and then one about the edges. */
    private int number(int most) {
        int[] edges = {-1, 0, most, most + 1, Integer.MIN_VALUE, Integer.MAX_VALUE, -9};
        return chance.nextInt(10) == 0 ? edges[chance.nextInt(edges.length)] : chance.nextInt(most + 1);
    }

    private int aLeaf() {
        return number(Math.max(0, r.count(0) - 1));
    }

    /** Small loads are those by which knees and breaks lie near. */
    private int aLoad() {
        return chance.nextBoolean() ? number(999) : number(chance.nextBoolean() ? 60 : 250);
    }

    private String blanks(int least) {
        return " ".repeat(chance.nextInt(9) == 0 ? least + 1 : least);
    }

    private String goodText() {
        StringBuilder text = new StringBuilder();
        int length = 9;
        int leaves = 1 + chance.nextInt(8);
        boolean strong = chance.nextBoolean();
        for (int i = 0; i < leaves; i++) {
            length -= chance.nextInt(3) == 0 ? chance.nextInt(length) : 0;
            int camber = chance.nextBoolean() ? chance.nextInt(31) : 10 + chance.nextInt(4);
            int strength = strong ? 60 + chance.nextInt(40) : 1 + chance.nextInt(99);
            text.append(blanks(0)).append('l').append(blanks(0)).append(length);
            text.append(blanks(1)).append(1 + chance.nextInt(9));
            text.append(blanks(1)).append(camber).append(blanks(1)).append(strength).append(blanks(0)).append(';');
        }
        return text.append(blanks(0)).toString();
    }

    private String brokenText() {
        StringBuilder text = new StringBuilder(goodText());
        for (int times = 1 + chance.nextInt(2); times > 0 && text.length() > 0; times--) {
            int at = chance.nextInt(text.length());
            switch (chance.nextInt(4)) {
                case 0 -> text.deleteCharAt(at);
                case 1 -> text.setLength(at);
                case 2 -> text.insert(at, "l;0 9131".charAt(chance.nextInt(8)));
                default -> text.setCharAt(at, (char) (chance.nextBoolean() ? chance.nextInt(256) : "l;0 9/:m".charAt(chance.nextInt(8))));
            }
        }
        return text.toString();
    }

    private void tell(String text) {
        if (chance.nextInt(9) != 0) {
            due("clear()", x.clear(), r.clear());
        }
        for (int i = 0; i < text.length(); i++) {
            due("type", x.type(text.charAt(i)), r.type(text.charAt(i)));
        }
        due("tells() of " + text, x.tells(), r.tells());
    }

    private void call() {
        int p = aLoad();
        int leaf = aLeaf();
        int what = number(2);
        switch (chance.nextInt(26)) {
            case 0 -> due("loads " + p, x.loads(p), r.loads(p));
            case 1 -> due("breaks " + leaf, x.breaks(leaf), r.makes(leaf, false));
            case 2, 3 -> due("mends " + leaf, x.mends(leaf), r.makes(leaf, true));
            case 4 -> camber(leaf, number(30));
            case 5 -> due("undo", x.undo(), r.undo());
            case 6 -> look(leaf, number(6));
            case 7, 8 -> due("bend " + p + " " + what, x.bend(p, what), r.bend(p, what));
            case 9, 10 -> due("bears " + leaf + " " + p + " " + what, x.bears(leaf, p, what), r.bears(leaf, p, what));
            case 11 -> due("rate " + p, x.rate(p), r.rate(p));
            case 12 -> due("least " + what, x.least(what), r.least(what));
            case 13, 14 -> knee(number(8) - 1);
            case 15, 16 -> choose(p, chance.nextBoolean() ? number(99) : number(20), number(1));
            case 17 -> see(p, chance.nextInt(3) == 0 ? number(9999) : r.bend(p, 2));
            case 18 -> due("forget", x.forget(), r.forget());
            case 19 -> seeABroken(leaf, p);
            case 20, 21 -> due("which " + what, x.which(what), r.which(what));
            case 22 -> due("ask", x.ask(), r.ask());
            case 23 -> due("keep " + what, x.keep(what), r.keep(what));
            case 24 -> due("back " + what, x.back(what), r.back(what));
            default -> counted(number(7));
        }
    }

    private void camber(int leaf, int c) {
        due("cambers " + leaf + " " + c, x.cambers(leaf, c), r.cambers(leaf, c));
    }

    private void look(int leaf, int what) {
        due("leaf " + leaf + " " + what, x.leaf(leaf, what), r.leaf(leaf, what));
    }

    private void knee(int k) {
        due("knee " + k, x.knee(k), r.knee(k));
    }

    private void choose(int p, int d, int what) {
        due("chosen " + p + " " + d + " " + what, x.chosen(p, d, what), r.chosen(p, d, what));
    }

    private void see(int p, int n) {
        due("sees " + p + " " + n, x.sees(p, n), r.sees(p, n));
    }

    /** What would be SEEN if a leaf were broken, so that which() has something to find. */
    private void seeABroken(int leaf, int p) {
        due("breaks " + leaf, x.breaks(leaf), r.makes(leaf, false));
        see(p, r.bend(p, 2));
        due("undo", x.undo(), r.undo());
        due("which 0", x.which(0), r.which(0));
        due("which 1", x.which(1), r.which(1));
        due("ask", x.ask(), r.ask());
    }

    private void counted(int what) {
        due("count " + what, x.count(what), r.count(what));
    }
}
