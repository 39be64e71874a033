import java.math.BigInteger;
import java.util.ArrayDeque;
import java.util.ArrayList;
import java.util.Arrays;
import java.util.Comparator;
import java.util.Deque;
import java.util.HashMap;
import java.util.List;
import java.util.Map;
import java.util.TreeSet;

/** The document read a second time, word by word and without a thought of speed, for runs by chance. */
final class Reference {
    record Leaf(int length, int stiff, int camber, int strength, boolean whole) {
        Leaf asWhole(boolean now) {
            return new Leaf(length, stiff, camber, strength, now);
        }

        Leaf ofCamber(int now) {
            return new Leaf(length, stiff, now, strength, whole);
        }
    }

    /** A number that is not whole perhaps. */
    record Ratio(BigInteger upper, BigInteger lower) implements Comparable<Ratio> {
        static Ratio of(long upper, long lower) {
            BigInteger u = BigInteger.valueOf(upper);
            BigInteger l = BigInteger.valueOf(lower);
            BigInteger g = u.gcd(l);
            return new Ratio(u.divide(g), l.divide(g));
        }

        static Ratio of(long whole) {
            return of(whole, 1);
        }

        private static Ratio lowest(BigInteger u, BigInteger l) {
            BigInteger g = u.gcd(l);
            return new Ratio(u.divide(g), l.divide(g));
        }

        Ratio plus(Ratio o) {
            return lowest(upper.multiply(o.lower).add(o.upper.multiply(lower)), lower.multiply(o.lower));
        }

        Ratio less(Ratio o) {
            return plus(new Ratio(o.upper.negate(), o.lower));
        }

        Ratio times(long n) {
            return lowest(upper.multiply(BigInteger.valueOf(n)), lower);
        }

        @Override
        public int compareTo(Ratio o) {
            return upper.multiply(o.lower).compareTo(o.upper.multiply(lower));
        }

        int part(int what) {
            return what == 0 ? upper.intValue() : what == 1 ? lower.intValue() : upper.divide(lower).intValue();
        }
    }

    private static final int BAD = -1, STATE = -2, FULL = -3, NONE = -9;
    private static final Ratio ZERO = Ratio.of(0);

    private String text = "";
    private List<Leaf> leaves = List.of(new Leaf(1, 1, 0, 99, true));
    private final Deque<List<Leaf>> undone = new ArrayDeque<>();
    private final Map<Integer, List<Leaf>> images = new HashMap<>();
    private final List<int[]> seen = new ArrayList<>();

    int type(int letter) {
        if (letter < 0 || letter > 255) {
            return BAD;
        }
        if (text.length() == 100) {
            return FULL;
        }
        text += (char) letter;
        return text.length();
    }

    int clear() {
        int had = text.length();
        text = "";
        return had;
    }

    int tells() {
        List<Leaf> told = new ArrayList<>();
        List<Integer> item = new ArrayList<>();
        boolean open = false;
        int at = 0;
        while (at < text.length()) {
            if (text.charAt(at) == ' ') {
                at++;
                continue;
            }
            int end = at + 1;
            String figures = "0123456789";
            boolean number = figures.indexOf(text.charAt(at)) >= 0;
            while (number && end < text.length() && figures.indexOf(text.charAt(end)) >= 0) {
                end++;
            }
            String token = text.substring(at, end);
            boolean fits;
            if (!open) {
                fits = token.equals("l") && told.size() < 8;
                open = true;
            } else if (item.size() == 4) {
                fits = token.equals(";");
                told.add(new Leaf(item.get(0), item.get(1), item.get(2), item.get(3), true));
                item.clear();
                open = false;
            } else {
                fits = number && mayBe(token, item.size(), told);
                if (fits) {
                    item.add(Integer.parseInt(token));
                }
            }
            if (!fits) {
                return -10 - at;
            }
            at = end;
        }
        if (open || told.isEmpty()) {
            return -10 - text.length();
        }
        done(told);
        seen.clear();
        images.clear();
        text = "";
        return told.size();
    }

    private static boolean mayBe(String token, int place, List<Leaf> told) {
        int[] least = {1, 1, 0, 1};
        int[] most = {told.isEmpty() ? 9 : told.get(told.size() - 1).length(), 9, 30, 99};
        BigInteger n = new BigInteger(token);
        return n.toString().equals(token) && n.compareTo(BigInteger.valueOf(least[place])) >= 0
            && n.compareTo(BigInteger.valueOf(most[place])) <= 0;
    }

    private void done(List<Leaf> now) {
        undone.addLast(leaves);
        if (undone.size() > 6) {
            undone.removeFirst();
        }
        leaves = List.copyOf(now);
    }

    private List<Leaf> with(int leaf, Leaf now) {
        List<Leaf> all = new ArrayList<>(leaves);
        all.set(leaf, now);
        return all;
    }

    /** REACH of each leaf of a pack. */
    private static int[] reaches(List<Leaf> pack) {
        int[] reach = new int[pack.size()];
        for (int i = 1; i < pack.size(); i++) {
            reach[i] = reach[i - 1] + Math.max(0, pack.get(i - 1).camber() - pack.get(i).camber());
        }
        return reach;
    }

    private static Ratio borne(Leaf leaf, int reach, Ratio d) {
        boolean bears = leaf.whole() && Ratio.of(reach).compareTo(d) < 0;
        return bears ? d.less(Ratio.of(reach)).times(leaf.stiff()) : ZERO;
    }

    private static Ratio together(List<Leaf> pack, Ratio d) {
        int[] reach = reaches(pack);
        Ratio sum = ZERO;
        for (int i = 0; i < reach.length; i++) {
            sum = sum.plus(borne(pack.get(i), reach[i], d));
        }
        return sum;
    }

    /** Of all d that some bound on REACH would give the one that fits; null: there is none. */
    private static Ratio bendOf(List<Leaf> pack, int p) {
        if (p == 0) {
            return ZERO;
        }
        int[] reach = reaches(pack);
        for (int bound : reach) {
            int stiffs = 0;
            int moment = 0;
            for (int i = 0; i < reach.length; i++) {
                if (pack.get(i).whole() && reach[i] <= bound) {
                    stiffs += pack.get(i).stiff();
                    moment += pack.get(i).stiff() * reach[i];
                }
            }
            if (stiffs > 0 && together(pack, Ratio.of(p + moment, stiffs)).equals(Ratio.of(p))) {
                return Ratio.of(p + moment, stiffs);
            }
        }
        return null;
    }

    private static int firstToBreak(List<Leaf> pack, int p) {
        Ratio d = bendOf(pack, p);
        int first = -1;
        Ratio most = ZERO;
        int[] reach = reaches(pack);
        for (int i = 0; d != null && i < reach.length; i++) {
            Ratio beyond = borne(pack.get(i), reach[i], d).less(Ratio.of(pack.get(i).strength()));
            if (beyond.compareTo(most) > 0) {
                first = i;
                most = beyond;
            }
        }
        return first;
    }

    private static List<Leaf> loaded(List<Leaf> before, int p) {
        List<Leaf> pack = new ArrayList<>(before);
        for (int i = firstToBreak(pack, p); i >= 0; i = firstToBreak(pack, p)) {
            pack.set(i, pack.get(i).asWhole(false));
        }
        return pack;
    }

    private static int whole(List<Leaf> pack) {
        return (int) pack.stream().filter(Leaf::whole).count();
    }

    private boolean exists(int leaf) {
        return leaf >= 0 && leaf < leaves.size();
    }

    private static boolean load(int p) {
        return p >= 0 && p <= 999;
    }

    int loads(int p) {
        if (!load(p)) {
            return BAD;
        }
        int before = whole(leaves);
        done(loaded(leaves, p));
        return before - whole(leaves);
    }

    int makes(int leaf, boolean now) {
        if (!exists(leaf)) {
            return BAD;
        }
        if (leaves.get(leaf).whole() == now) {
            return STATE;
        }
        done(with(leaf, leaves.get(leaf).asWhole(now)));
        return whole(leaves);
    }

    int cambers(int leaf, int c) {
        if (!exists(leaf) || c < 0 || c > 30) {
            return BAD;
        }
        int was = leaves.get(leaf).camber();
        if (was == c) {
            return STATE;
        }
        done(with(leaf, leaves.get(leaf).ofCamber(c)));
        return was;
    }

    int undo() {
        if (undone.isEmpty()) {
            return STATE;
        }
        leaves = undone.removeLast();
        return undone.size();
    }

    int leaf(int leaf, int what) {
        if (!exists(leaf) || what < 0 || what > 6) {
            return BAD;
        }
        Leaf l = leaves.get(leaf);
        int[] reach = reaches(leaves);
        int nip = leaf == 0 ? 0 : reach[leaf] - reach[leaf - 1];
        return new int[] {l.length(), l.stiff(), l.camber(), l.strength(), l.whole() ? 1 : 0, nip, reach[leaf]}[what];
    }

    int bend(int p, int what) {
        if (!load(p) || what < 0 || what > 2) {
            return BAD;
        }
        Ratio d = bendOf(leaves, p);
        return d == null ? NONE : d.part(what);
    }

    int bears(int leaf, int p, int what) {
        if (!exists(leaf) || !load(p) || what < 0 || what > 2) {
            return BAD;
        }
        Ratio d = bendOf(leaves, p);
        if (d == null) {
            return NONE;
        }
        Ratio bears = borne(leaves.get(leaf), reaches(leaves)[leaf], d);
        if (what == 2) {
            return bears.compareTo(Ratio.of(leaves.get(leaf).strength())) > 0 ? 1 : 0;
        }
        return bears.part(what);
    }

    int rate(int p) {
        if (!load(p)) {
            return BAD;
        }
        Ratio d = bendOf(leaves, p);
        if (d == null) {
            return NONE;
        }
        int sum = 0;
        for (int i = 0; i < leaves.size(); i++) {
            if (leaves.get(i).whole() && Ratio.of(reaches(leaves)[i]).compareTo(d) < 0) {
                sum += leaves.get(i).stiff();
            }
        }
        return sum;
    }

    int least(int what) {
        if (what < 0 || what > 2) {
            return BAD;
        }
        for (int p = 1; p <= 999; p++) {
            int first = firstToBreak(leaves, p);
            if (first >= 0) {
                return what == 0 ? p : what == 1 ? first : whole(leaves) - whole(loaded(leaves, p));
            }
        }
        return NONE;
    }

    int knee(int k) {
        if (k < -1) {
            return BAD;
        }
        TreeSet<Integer> knees = new TreeSet<>();
        int[] reach = reaches(leaves);
        for (int i = 0; i < reach.length; i++) {
            if (leaves.get(i).whole()) {
                knees.add(together(leaves, Ratio.of(reach[i])).part(0));
            }
        }
        List<Integer> rising = new ArrayList<>(knees.tailSet(1));
        return k == -1 ? rising.size() : k < rising.size() ? rising.get(k) : NONE;
    }

    int chosen(int p, int d, int what) {
        if (!load(p) || d < 0 || d > 99 || what < 0 || what > 1) {
            return BAD;
        }
        List<Integer> packs = new ArrayList<>();
        for (int bits = 0; bits < 1 << leaves.size(); bits++) {
            if (mayBeChosen(bits) && holds(bits, p, d)) {
                packs.add(bits);
            }
        }
        packs.sort(Comparator.comparing((Integer b) -> Integer.bitCount(b)).thenComparing(b -> b));
        return packs.isEmpty() ? NONE : what == 0 ? Integer.bitCount(packs.get(0)) : packs.get(0);
    }

    private boolean mayBeChosen(int bits) {
        boolean uppermost = true;
        for (int i = 0; i < leaves.size(); i++) {
            boolean in = (bits >> i & 1) == 1;
            if (in && !leaves.get(i).whole() || !in && leaves.get(i).whole() && uppermost) {
                return false;
            }
            uppermost &= !leaves.get(i).whole();
        }
        return !uppermost;
    }

    private boolean holds(int bits, int p, int d) {
        List<Leaf> pack = new ArrayList<>();
        for (int i = 0; i < leaves.size(); i++) {
            if ((bits >> i & 1) == 1) {
                pack.add(leaves.get(i));
            }
        }
        return firstToBreak(pack, p) < 0 && bendOf(pack, p).compareTo(Ratio.of(d)) <= 0;
    }

    int sees(int p, int n) {
        if (!load(p) || n != NONE && (n < 0 || n > 9999)) {
            return BAD;
        }
        if (seen.size() == 6) {
            return FULL;
        }
        seen.add(new int[] {p, n});
        return seen.size();
    }

    int forget() {
        int was = seen.size();
        seen.clear();
        return was;
    }

    private int cutWithout(int broken, int p) {
        List<Leaf> pack = broken < 0 ? leaves : with(broken, leaves.get(broken).asWhole(false));
        Ratio d = bendOf(pack, p);
        return d == null ? NONE : d.part(2);
    }

    private List<Integer> these() {
        List<Integer> all = new ArrayList<>();
        for (int i = -1; i < leaves.size(); i++) {
            boolean fits = i < 0 || leaves.get(i).whole();
            for (int[] s : seen) {
                fits = fits && cutWithout(i, s[0]) == s[1];
            }
            if (fits) {
                all.add(i);
            }
        }
        return all;
    }

    int which(int what) {
        if (what < 0 || what > 1) {
            return -1000000;
        }
        List<Integer> all = these();
        return what == 0 ? all.size() : all.isEmpty() ? -2000000 : all.get(0);
    }

    int ask() {
        List<Integer> all = these();
        if (all.size() <= 1) {
            return NONE;
        }
        int[] greatest = new int[31];
        for (int step = 1; step <= 30; step++) {
            Map<Integer, Integer> groups = new HashMap<>();
            for (int i : all) {
                groups.merge(cutWithout(i, step * 10), 1, Integer::sum);
            }
            greatest[step] = groups.values().stream().max(Comparator.naturalOrder()).orElseThrow();
        }
        int least = Arrays.stream(greatest).skip(1).min().orElseThrow();
        for (int step = 1; step <= 30; step++) {
            if (greatest[step] == least) {
                return step * 10;
            }
        }
        return NONE;
    }

    int keep(int image) {
        if (image != 0 && image != 1) {
            return BAD;
        }
        images.put(image, leaves);
        return leaves.size();
    }

    int back(int image) {
        if (image != 0 && image != 1) {
            return BAD;
        }
        if (!images.containsKey(image)) {
            return STATE;
        }
        leaves = images.get(image);
        undone.clear();
        return leaves.size();
    }

    int count(int what) {
        if (what < 0 || what > 7) {
            return BAD;
        }
        int stiff = leaves.stream().filter(Leaf::whole).mapToInt(Leaf::stiff).sum();
        int length = leaves.stream().mapToInt(Leaf::length).sum();
        int reach = reaches(leaves)[leaves.size() - 1];
        return new int[] {leaves.size(), whole(leaves), stiff, length, reach, seen.size(), text.length(), undone.size()}[what];
    }
}
