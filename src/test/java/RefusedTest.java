import java.util.ArrayList;
import java.util.List;
import java.util.function.Consumer;
import java.util.function.Supplier;
import java.util.function.ToIntFunction;

/**
 * "Refused, and nothing changes", and "(Nothing is changed.)" of what only looks: each such call is made on one of two
 * objects that are alike, in a number of states; then all that can be found out of both must be alike yet.
 */
public final class RefusedTest {
    record Call(String name, ToIntFunction<StackedLeaves> made, int due) {
    }

    /** What a call that only looks answers is not looked at here. */
    private static final int ANY = Integer.MAX_VALUE;
    /** Each is done to two new ones that are alike, so that it may change them. */
    private static final List<Consumer<StackedLeaves>> PROBES = List.of(
        x -> { },
        x -> x.tells(),
        x -> Due.type(x, ";"),
        x -> Due.type(x, " 1;"),
        x -> { x.type(';'); x.tells(); },
        x -> { x.clear(); x.type('l'); x.tells(); },
        x -> x.undo(),
        x -> undo(x, 2),
        x -> undo(x, 3),
        x -> undo(x, 4),
        x -> undo(x, 5),
        x -> undo(x, 6),
        x -> undo(x, 7),
        x -> { x.cambers(0, 29); x.undo(); },
        x -> x.back(0),
        x -> x.back(1),
        x -> { x.back(0); x.back(1); },
        x -> { x.breaks(0); x.mends(1); },
        x -> x.loads(79),
        x -> x.sees(12, 5),
        x -> x.forget());

    private static void undo(StackedLeaves x, int times) {
        for (int i = 0; i < times; i++) {
            x.undo();
        }
    }

    public static void main(String[] args) {
        changesNothing("as at first", RefusedTest::atFirst, refusedAtFirst());
        changesNothing("half way", RefusedTest::halfWay, refusedHalfWay());
        changesNothing("all full", RefusedTest::allFull, refusedAllFull());
        changesNothing("all BROKEN", RefusedTest::allBroken, refusedAllBroken());
        changesNothing("behind back()", RefusedTest::behindBack, refusedBehindBack());
        Due.end();
    }

    private static StackedLeaves atFirst() {
        return new StackedLeaves();
    }

    private static List<Call> refusedAtFirst() {
        List<Call> calls = always(1);
        calls.add(new Call("tells()", x -> x.tells(), -10));
        calls.add(new Call("mends(0)", x -> x.mends(0), Due.STATE));
        calls.add(new Call("cambers(0, 0)", x -> x.cambers(0, 0), Due.STATE));
        calls.add(new Call("undo()", x -> x.undo(), Due.STATE));
        calls.add(new Call("back(0)", x -> x.back(0), Due.STATE));
        calls.add(new Call("back(1)", x -> x.back(1), Due.STATE));
        return calls;
    }

    private static StackedLeaves halfWay() {
        StackedLeaves x = new StackedLeaves();
        Due.type(x, Due.FIVE);
        x.tells();
        x.breaks(1);
        x.keep(1);
        x.cambers(3, 30);
        x.sees(12, 5);
        x.sees(13, 5);
        Due.type(x, "l5 5 5 5");
        return x;
    }

    private static List<Call> refusedHalfWay() {
        List<Call> calls = always(5);
        calls.add(new Call("tells()", x -> x.tells(), -18));
        calls.add(new Call("breaks(1)", x -> x.breaks(1), Due.STATE));
        calls.add(new Call("mends(0)", x -> x.mends(0), Due.STATE));
        calls.add(new Call("mends(4)", x -> x.mends(4), Due.STATE));
        calls.add(new Call("cambers(3, 30)", x -> x.cambers(3, 30), Due.STATE));
        calls.add(new Call("cambers(1, 17)", x -> x.cambers(1, 17), Due.STATE));
        calls.add(new Call("back(0)", x -> x.back(0), Due.STATE));
        return calls;
    }

    /** Eight leaves, both images, 6 SEEN, more DONE than are known, a text of 100 letters, that is faulty by its last one. */
    private static StackedLeaves allFull() {
        StackedLeaves x = new StackedLeaves();
        Due.type(x, Due.EIGHT);
        x.tells();
        x.keep(0);
        x.breaks(7);
        x.keep(1);
        for (int i = 0; i < 8; i++) {
            x.cambers(i, 3 * i);
        }
        for (int i = 0; i < 6; i++) {
            x.sees(60 + i, 1 + i / 4);
        }
        Due.type(x, Due.EIGHT + " ".repeat(11) + "x");
        return x;
    }

    private static List<Call> refusedAllFull() {
        List<Call> calls = always(8);
        calls.add(new Call("type(32)", x -> x.type(32), Due.FULL));
        calls.add(new Call("type(0)", x -> x.type(0), Due.FULL));
        calls.add(new Call("type(59)", x -> x.type(59), Due.FULL));
        calls.add(new Call("tells()", x -> x.tells(), -109));
        calls.add(new Call("breaks(7)", x -> x.breaks(7), Due.STATE));
        calls.add(new Call("mends(0)", x -> x.mends(0), Due.STATE));
        calls.add(new Call("cambers(7, 21)", x -> x.cambers(7, 21), Due.STATE));
        calls.add(new Call("sees(0, 0)", x -> x.sees(0, 0), Due.FULL));
        calls.add(new Call("sees(999, NONE)", x -> x.sees(999, Due.NONE), Due.FULL));
        return calls;
    }

    private static StackedLeaves allBroken() {
        StackedLeaves x = new StackedLeaves();
        Due.type(x, Due.THREE);
        x.tells();
        x.keep(0);
        x.loads(999);
        x.sees(1, Due.NONE);
        Due.type(x, "l9 9 9 9;".repeat(9));
        return x;
    }

    private static List<Call> refusedAllBroken() {
        List<Call> calls = always(3);
        calls.add(new Call("tells()", x -> x.tells(), -82));
        for (int i = 0; i < 3; i++) {
            int leaf = i;
            calls.add(new Call("breaks(" + i + ")", x -> x.breaks(leaf), Due.STATE));
        }
        calls.add(new Call("back(1)", x -> x.back(1), Due.STATE));
        return calls;
    }

    private static StackedLeaves behindBack() {
        StackedLeaves x = halfWay();
        x.loads(79);
        x.back(1);
        x.keep(0);
        return x;
    }

    private static List<Call> refusedBehindBack() {
        List<Call> calls = always(5);
        calls.add(new Call("tells()", x -> x.tells(), -18));
        calls.add(new Call("undo()", x -> x.undo(), Due.STATE));
        calls.add(new Call("breaks(1)", x -> x.breaks(1), Due.STATE));
        calls.add(new Call("cambers(3, 10)", x -> x.cambers(3, 10), Due.STATE));
        return calls;
    }

    /** What is BAD in every state of so many leaves, and what only looks. */
    private static List<Call> always(int leaves) {
        List<Call> calls = new ArrayList<>();
        for (int n : Due.outside(0, 255)) {
            calls.add(new Call("type(" + n + ")", x -> x.type(n), Due.BAD));
        }
        badLoads(calls);
        badLeaves(calls, leaves);
        for (int c : Due.outside(0, 30)) {
            calls.add(new Call("cambers(0, " + c + ")", x -> x.cambers(0, c), Due.BAD));
        }
        for (int d : Due.outside(0, 99)) {
            calls.add(new Call("chosen(9, " + d + ", 0)", x -> x.chosen(9, d, 0), Due.BAD));
        }
        for (int n : Due.outside(0, 9999)) {
            calls.add(new Call("sees(0, " + n + ")", x -> x.sees(0, n), Due.BAD));
        }
        for (int image : Due.outside(0, 1)) {
            calls.add(new Call("keep(" + image + ")", x -> x.keep(image), Due.BAD));
            calls.add(new Call("back(" + image + ")", x -> x.back(image), Due.BAD));
            calls.add(new Call("which(" + image + ")", x -> x.which(image), Due.NO));
        }
        looks(calls);
        return calls;
    }

    private static void badLoads(List<Call> calls) {
        for (int p : Due.outside(0, 999)) {
            calls.add(new Call("loads(" + p + ")", x -> x.loads(p), Due.BAD));
            calls.add(new Call("bend(" + p + ", 0)", x -> x.bend(p, 0), Due.BAD));
            calls.add(new Call("bears(0, " + p + ", 0)", x -> x.bears(0, p, 0), Due.BAD));
            calls.add(new Call("rate(" + p + ")", x -> x.rate(p), Due.BAD));
            calls.add(new Call("chosen(" + p + ", 9, 0)", x -> x.chosen(p, 9, 0), Due.BAD));
            calls.add(new Call("sees(" + p + ", 0)", x -> x.sees(p, 0), Due.BAD));
        }
    }

    private static void badLeaves(List<Call> calls, int leaves) {
        for (int leaf : Due.outside(0, leaves - 1)) {
            calls.add(new Call("breaks(" + leaf + ")", x -> x.breaks(leaf), Due.BAD));
            calls.add(new Call("mends(" + leaf + ")", x -> x.mends(leaf), Due.BAD));
            calls.add(new Call("cambers(" + leaf + ", 0)", x -> x.cambers(leaf, 0), Due.BAD));
            calls.add(new Call("leaf(" + leaf + ", 0)", x -> x.leaf(leaf, 0), Due.BAD));
            calls.add(new Call("bears(" + leaf + ", 1, 0)", x -> x.bears(leaf, 1, 0), Due.BAD));
        }
    }

    private static void looks(List<Call> calls) {
        for (int what = -1; what <= 8; what++) {
            int w = what;
            calls.add(new Call("leaf(0, " + w + ")", x -> x.leaf(0, w), ANY));
            calls.add(new Call("bend(79, " + w + ")", x -> x.bend(79, w), ANY));
            calls.add(new Call("bears(0, 999, " + w + ")", x -> x.bears(0, 999, w), ANY));
            calls.add(new Call("least(" + w + ")", x -> x.least(w), ANY));
            calls.add(new Call("knee(" + (w - 1) + ")", x -> x.knee(w - 1), ANY));
            calls.add(new Call("chosen(40, 9, " + w + ")", x -> x.chosen(40, 9, w), ANY));
            calls.add(new Call("which(" + w + ")", x -> x.which(w), ANY));
            calls.add(new Call("count(" + w + ")", x -> x.count(w), ANY));
        }
        calls.add(new Call("rate(999)", x -> x.rate(999), ANY));
        calls.add(new Call("ask()", x -> x.ask(), ANY));
    }

    private static void changesNothing(String state, Supplier<StackedLeaves> alike, List<Call> calls) {
        List<String> before = new ArrayList<>();
        for (Consumer<StackedLeaves> probe : PROBES) {
            StackedLeaves x = alike.get();
            probe.accept(x);
            before.add(allOf(x));
        }
        for (Call call : calls) {
            Due.words((call.due == ANY ? "(Nothing is changed.) " : "Refused, and nothing changes ") + state);
            for (int i = 0; i < PROBES.size(); i++) {
                StackedLeaves x = alike.get();
                int answer = call.made.applyAsInt(x);
                if (call.due != ANY) {
                    Due.is(call.name, answer, call.due);
                }
                PROBES.get(i).accept(x);
                Due.same(call.name + ", probe " + i, allOf(x), before.get(i));
            }
        }
    }

    /** All that looking finds out; a run of it and what was ahead stays below the 512 calls of an object. */
    private static String allOf(StackedLeaves x) {
        StringBuilder all = new StringBuilder(Due.state(x));
        for (int what = 0; what < 8; what++) {
            all.append(x.count(what)).append(' ');
        }
        for (int what = 0; what < 2; what++) {
            all.append(x.which(what)).append(' ').append(x.bend(79, what)).append(' ').append(x.chosen(40, 9, what)).append(' ');
        }
        return all.append(x.ask()).append(' ').append(x.least(0)).append(' ').append(x.knee(-1)).toString();
    }
}
